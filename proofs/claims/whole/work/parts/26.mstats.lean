def y_Model_begin : MethodName := ⟨"TileForgeModel", "begin", "()V"⟩
def ws_Model_begin : List Cond := .code y_Model_begin prog_11_method_17_code 2 none :: GW
theorem mw_384 : (.code ⟨"TileForgeModel", "begin", "()V"⟩ prog_11_method_17_code 2 none : Cond) ∈ GW := List.mem_filter.mpr ⟨(List.mem_append_right _ (List.mem_append_right _ (List.mem_append_right _ (List.mem_append_right _ (List.mem_of_getElem? (i := 91) rfl))))), rfl⟩
theorem hd_Model_begin : y_Model_begin.cls ≠ "java/lang/invoke/MethodHandle" ∧ y_Model_begin.cls ≠ "java/lang/invoke/VarHandle" ∧ (parseMethodDescriptor y_Model_begin.desc).map (fun d => d.parameters.length) = some 0 := by decide +kernel
theorem d_Model_begin_0 : decode prog_11_method_17_code 0 = .ok (.iconst 0, 1) := by decide +kernel
theorem d_Model_begin_1 : decode prog_11_method_17_code 1 = .ok (.istore_n 1, 1) := by decide +kernel
theorem d_Model_begin_2 : decode prog_11_method_17_code 2 = .ok (.iload_n 1, 1) := by decide +kernel
theorem d_Model_begin_3 : decode prog_11_method_17_code 3 = .ok (.iconst 2, 1) := by decide +kernel
theorem d_Model_begin_4 : decode prog_11_method_17_code 4 = .ok (.if_icmp .ge 24, 3) := by decide +kernel
theorem d_Model_begin_7 : decode prog_11_method_17_code 7 = .ok (.aload_n 0, 1) := by decide +kernel
theorem d_Model_begin_8 : decode prog_11_method_17_code 8 = .ok (.getfield 46, 3) := by decide +kernel
theorem d_Model_begin_11 : decode prog_11_method_17_code 11 = .ok (.iload_n 1, 1) := by decide +kernel
theorem d_Model_begin_12 : decode prog_11_method_17_code 12 = .ok (.bipush 8, 2) := by decide +kernel
theorem d_Model_begin_14 : decode prog_11_method_17_code 14 = .ok (.iastore, 1) := by decide +kernel
theorem d_Model_begin_15 : decode prog_11_method_17_code 15 = .ok (.aload_n 0, 1) := by decide +kernel
theorem d_Model_begin_16 : decode prog_11_method_17_code 16 = .ok (.getfield 49, 3) := by decide +kernel
theorem d_Model_begin_19 : decode prog_11_method_17_code 19 = .ok (.iload_n 1, 1) := by decide +kernel
theorem d_Model_begin_20 : decode prog_11_method_17_code 20 = .ok (.iconst 1, 1) := by decide +kernel
theorem d_Model_begin_21 : decode prog_11_method_17_code 21 = .ok (.iastore, 1) := by decide +kernel
theorem d_Model_begin_22 : decode prog_11_method_17_code 22 = .ok (.iinc 1 1, 3) := by decide +kernel
theorem d_Model_begin_25 : decode prog_11_method_17_code 25 = .ok (.goto (-23), 3) := by decide +kernel
theorem d_Model_begin_28 : decode prog_11_method_17_code 28 = .ok (.return_, 1) := by decide +kernel
theorem mw_385 : (.fieldLink "TileForgeModel" 46 "TileForgeModel" "sum" "[I" : Cond) ∈ GW := List.mem_filter.mpr ⟨(List.mem_append_right _ (List.mem_append_right _ (List.mem_append_right _ (List.mem_append_left _ (List.mem_of_getElem? (i := 210) rfl))))), rfl⟩
theorem mw_386 : (.fieldLink "TileForgeModel" 49 "TileForgeModel" "many" "[I" : Cond) ∈ GW := List.mem_filter.mpr ⟨(List.mem_append_right _ (List.mem_append_right _ (List.mem_append_right _ (List.mem_append_left _ (List.mem_of_getElem? (i := 211) rfl))))), rfl⟩
def q_mo_begin (cI : ClassId) (g0 : Nat) (g1 : Nat) (g2 : Nat) (g3 : Nat) (g4 : Nat) (g5 : Nat) (g6 : Nat) (g7 : Nat) (g8 : Nat) (g9 : Nat) (g10 : Nat) (g11 : Nat) (g12 : Nat) (g13 : Nat) (g14 : Nat) (g15 : Nat) (isz : Int32) (ith : Int32) (ico : Int32) (icl : Int32) (irw : Int32) (ibi : Int32) (ien : Int32) (itr : Int32) (ibl : Int32) (ile : Int32) (igr : Int32) (ibk : Int32) (ist : Int32) (ibr : Int32) (su : Nat → Int32) (mn : Nat → Int32) : va_W → Prop := fun ww => ∃ (su' : Nat → Int32) (mn' : Nat → Int32), (∀ j, j < 2 → su' j = 8) ∧ (∀ j, j < 2 → mn' j = 1) ∧ ww = [(g0, .inr (9, [.ref g1, .ref g2, .ref g3, .ref g4, .ref g5, .ref g6, .ref g7, .ref g8, .ref g9, .ref g10, .ref g11, .ref g12, .ref g13, .ref g14, .ref g15, .int isz, .int ith, .int ico, .int icl, .int irw, .int ibi, .int ien, .int itr, .int ibl, .int ile, .int igr, .int ibk, .int ist, .int ibr])), (g13, .inl (cI, 2, .inl su')), (g14, .inl (cI, 2, .inl mn'))]
set_option maxHeartbeats 4000000 in
set_option maxRecDepth 100000 in
theorem c_mo_begin (l : Launch) {D : va_G} {tys : List (ClassId × FieldType)} {cI : ClassId} (hcI : tys[0]? = some (cI, .int)) (g0 : Nat) (g1 : Nat) (g2 : Nat) (g3 : Nat) (g4 : Nat) (g5 : Nat) (g6 : Nat) (g7 : Nat) (g8 : Nat) (g9 : Nat) (g10 : Nat) (g11 : Nat) (g12 : Nat) (g13 : Nat) (g14 : Nat) (g15 : Nat) (isz : Int32) (ith : Int32) (ico : Int32) (icl : Int32) (irw : Int32) (ibi : Int32) (ien : Int32) (itr : Int32) (ibl : Int32) (ile : Int32) (igr : Int32) (ibk : Int32) (ist : Int32) (ibr : Int32) (su : Nat → Int32) (mn : Nat → Int32) : CsV l D vwCl tys y_Model_begin ws_Model_begin ({ frames := 0, cells := 0, slots := 0, locals := 0 } : Room) [.ref g0] [(g0, .inr (9, [.ref g1, .ref g2, .ref g3, .ref g4, .ref g5, .ref g6, .ref g7, .ref g8, .ref g9, .ref g10, .ref g11, .ref g12, .ref g13, .ref g14, .ref g15, .int isz, .int ith, .int ico, .int icl, .int irw, .int ibi, .int ien, .int itr, .int ibl, .int ile, .int igr, .int ibk, .int ist, .int ibr])), (g13, .inl (cI, 2, .inl su)), (g14, .inl (cI, 2, .inl mn))] (q_mo_begin cI g0 g1 g2 g3 g4 g5 g6 g7 g8 g9 g10 g11 g12 g13 g14 g15 isz ith ico icl irw ibi ien itr ibl ile igr ibk ist ibr su mn) 0 0 := by
  intro sz
  refine Met.ofW (cc := prog_11_method_17_code) (maxL := 2) (ret := none) (by decide) rfl ?_
  intro p e s m args below meth c s₁ B hml hv
  obtain ⟨rfl, hsz, hP, hK, hD0, hN⟩ := hv
  have hx := B.exec
  have hb := B.bytes
  have hr := B.returns
  have hts := atoms_spec (ws := ws_Model_begin) B.pre
  have hown : s.vm.findClass "TileForgeModel" = some m.cls := findClass_of_methodNamed B.named
  have hlocks := B.notSynchronized
  subst hsz
  have hD := hD0.self (sz := s.heap.size)
  generalize hAe : va_A [(g0, .inr (9, [.ref g1, .ref g2, .ref g3, .ref g4, .ref g5, .ref g6, .ref g7, .ref g8, .ref g9, .ref g10, .ref g11, .ref g12, .ref g13, .ref g14, .ref g15, .int isz, .int ith, .int ico, .int icl, .int irw, .int ibi, .int ien, .int itr, .int ibl, .int ile, .int igr, .int ibk, .int ist, .int ibr])), (g13, .inl (cI, 2, .inl su)), (g14, .inl (cI, 2, .inl mn))] s.heap.size = A at hD ⊢
  have hA : ∀ q : Nat, s.heap.size ≤ q → A q := fun q h => by rw [← hAe]; exact Or.inr h
  have hS : va_S A s.heap s.heap [] := va_S.rf
  have hP : va_P D vwCl [(g0, .inr (9, [.ref g1, .ref g2, .ref g3, .ref g4, .ref g5, .ref g6, .ref g7, .ref g8, .ref g9, .ref g10, .ref g11, .ref g12, .ref g13, .ref g14, .ref g15, .int isz, .int ith, .int ico, .int icl, .int irw, .int ibi, .int ien, .int itr, .int ibl, .int ile, .int igr, .int ibk, .int ist, .int ibr])), (g13, .inl (cI, 2, .inl su)), (g14, .inl (cI, 2, .inl mn))] s.heap := hP
  have hl := lv_entry ([.ref g0]) (n := 2) (Nat.le_of_ble_eq_true rfl)
  rw [lg_entry_eq]
  generalize (lg_sl ([.ref g0]) ++ List.replicate (2 - (lg_sl ([.ref g0])).length) Slot.unset).toArray = ls at hl ⊢
  have hl : lv_has ls 2 [(0, .ref g0)] := hl
  refine lv_iconst (v := 0) hx hb d_Model_begin_0 (by decide) ?_
  refine lv_istore_n (lv' := [(1, .int 0), (0, .ref g0)]) hx hb d_Model_begin_1 rfl hl (by decide) rfl (fun ls hl => ?_)
  have lp2 : ∀ (n : Nat) (k : Nat) (f : Nat → Int32) (g : Nat → Int32), (3 ≤ k + n) → (k ≤ 2) → (∀ j, j < k → f j = 8) → (∀ j, j < k → g j = 1) → ∀ (H : Heap) (locs : List Loc) (ls : Array Slot), va_P D vwCl [(g0, .inr (9, [.ref g1, .ref g2, .ref g3, .ref g4, .ref g5, .ref g6, .ref g7, .ref g8, .ref g9, .ref g10, .ref g11, .ref g12, .ref g13, .ref g14, .ref g15, .int isz, .int ith, .int ico, .int icl, .int irw, .int ibi, .int ien, .int itr, .int ibl, .int ile, .int igr, .int ibk, .int ist, .int ibr])), (g13, .inl (cI, 2, .inl f)), (g14, .inl (cI, 2, .inl g))] H → va_D A [(g0, .inr (9, [.ref g1, .ref g2, .ref g3, .ref g4, .ref g5, .ref g6, .ref g7, .ref g8, .ref g9, .ref g10, .ref g11, .ref g12, .ref g13, .ref g14, .ref g15, .int isz, .int ith, .int ico, .int icl, .int irw, .int ibi, .int ien, .int itr, .int ibl, .int ile, .int igr, .int ibk, .int ist, .int ibr])), (g13, .inl (cI, 2, .inl f)), (g14, .inl (cI, 2, .inl g))] → va_S A s.heap H locs → lv_has ls 2 [(0, .ref g0), (1, .int (nI k))] → W p l e ({ frames := 0, cells := 0, slots := 0, locals := 0 } : Room) s m ([.ref g0] : List Value).toArray below meth c H locs 0 0 (MQ below (va_Qv (q_mo_begin cI g0 g1 g2 g3 g4 g5 g6 g7 g8 g9 g10 g11 g12 g13 g14 g15 isz ith ico icl irw ibi ien itr ibl ile igr ibk ist ibr su mn) (cs_B D vwCl tys A) A) ([.ref g0] : List Value).toArray s 0 0 A) (F0 m 2 ls []) := by
    intro n
    induction n with
    | zero =>
      intro k f g hf hk h1 h2
      exact absurd hf (by omega)
    | succ n ih2 =>
      intro k f g hf hk h1 h2 H locs ls hP hD hS hl
      refine lv_iload_n hx hb d_Model_begin_2 rfl (lv_at hl 1 rfl) ?_
      refine lv_iconst (v := 2) hx hb d_Model_begin_3 (by decide) ?_
      refine lv_icmp_ge (tgt := 28) hx hb d_Model_begin_4 (by decide) (fun c_4 => ?_) (fun c_4 => ?_)
      · have hk2 := (nI_leI (a := 2) (b := k) (by decide) (by omega)).mp c_4
        have hk3 : k = 2 := by omega
        subst hk3
        exact W.vret hx hb hr (fun t ht hW => ⟨⟨[(g0, .inr (9, [.ref g1, .ref g2, .ref g3, .ref g4, .ref g5, .ref g6, .ref g7, .ref g8, .ref g9, .ref g10, .ref g11, .ref g12, .ref g13, .ref g14, .ref g15, .int isz, .int ith, .int ico, .int icl, .int irw, .int ibi, .int ien, .int itr, .int ibl, .int ile, .int igr, .int ibk, .int ist, .int ibr])), (g13, .inl (cI, 2, .inl f)), (g14, .inl (cI, 2, .inl g))], rfl, ⟨f, g, (h1), (h2), (rfl)⟩, by rw [ht]; exact hP, va_K.moved hW.alike hK, hD⟩, hS.F ht⟩) hS.2.2 d_Model_begin_28
      · have hk2 : k < 2 := Nat.not_le.mp (fun h => c_4 ((nI_leI (a := 2) (b := k) (by decide) (by omega)).mpr h))
        refine lv_aload_n hx hb d_Model_begin_7 rfl (lv_at hl 0 rfl) ?_
        refine va_get (D := D) (ci := 9) (v := .ref g13) (C := "TileForgeModel") (T := T_Model) (N := 29) hx hb hts (cs_in in_Model) hown hK hP 0 rfl rfl 12 (by decide) (hts _ (cs_m mw_385)) (fun _ h9 => h9) rfl d_Model_begin_8 ?_
        refine lv_iload_n hx hb d_Model_begin_11 rfl (lv_at hl 1 rfl) ?_
        refine lv_bipush (v := 8) hx hb d_Model_begin_12 (by decide) ?_
        refine cs_iast (j := k) hx hb hK hcI hP hD hS 1 rfl (rfl) (by omega) (by decide) d_Model_begin_14 (fun H locs hP hD hS => ?_)
        have hP : va_P D vwCl [(g0, .inr (9, [.ref g1, .ref g2, .ref g3, .ref g4, .ref g5, .ref g6, .ref g7, .ref g8, .ref g9, .ref g10, .ref g11, .ref g12, .ref g13, .ref g14, .ref g15, .int isz, .int ith, .int ico, .int icl, .int irw, .int ibi, .int ien, .int itr, .int ibl, .int ile, .int igr, .int ibk, .int ist, .int ibr])), (g13, .inl (cI, 2, .inl (upd f k 8))), (g14, .inl (cI, 2, .inl g))] H := hP
        have hD : va_D A [(g0, .inr (9, [.ref g1, .ref g2, .ref g3, .ref g4, .ref g5, .ref g6, .ref g7, .ref g8, .ref g9, .ref g10, .ref g11, .ref g12, .ref g13, .ref g14, .ref g15, .int isz, .int ith, .int ico, .int icl, .int irw, .int ibi, .int ien, .int itr, .int ibl, .int ile, .int igr, .int ibk, .int ist, .int ibr])), (g13, .inl (cI, 2, .inl (upd f k 8))), (g14, .inl (cI, 2, .inl g))] := hD
        refine lv_aload_n hx hb d_Model_begin_15 rfl (lv_at hl 0 rfl) ?_
        refine va_get (D := D) (ci := 9) (v := .ref g14) (C := "TileForgeModel") (T := T_Model) (N := 29) hx hb hts (cs_in in_Model) hown hK hP 0 rfl rfl 13 (by decide) (hts _ (cs_m mw_386)) (fun _ h9 => h9) rfl d_Model_begin_16 ?_
        refine lv_iload_n hx hb d_Model_begin_19 rfl (lv_at hl 1 rfl) ?_
        refine lv_iconst (v := 1) hx hb d_Model_begin_20 (by decide) ?_
        refine cs_iast (j := k) hx hb hK hcI hP hD hS 2 rfl (rfl) (by omega) (by decide) d_Model_begin_21 (fun H locs hP hD hS => ?_)
        have hP : va_P D vwCl [(g0, .inr (9, [.ref g1, .ref g2, .ref g3, .ref g4, .ref g5, .ref g6, .ref g7, .ref g8, .ref g9, .ref g10, .ref g11, .ref g12, .ref g13, .ref g14, .ref g15, .int isz, .int ith, .int ico, .int icl, .int irw, .int ibi, .int ien, .int itr, .int ibl, .int ile, .int igr, .int ibk, .int ist, .int ibr])), (g13, .inl (cI, 2, .inl (upd f k 8))), (g14, .inl (cI, 2, .inl (upd g k 1)))] H := hP
        have hD : va_D A [(g0, .inr (9, [.ref g1, .ref g2, .ref g3, .ref g4, .ref g5, .ref g6, .ref g7, .ref g8, .ref g9, .ref g10, .ref g11, .ref g12, .ref g13, .ref g14, .ref g15, .int isz, .int ith, .int ico, .int icl, .int irw, .int ibi, .int ien, .int itr, .int ibl, .int ile, .int igr, .int ibk, .int ist, .int ibr])), (g13, .inl (cI, 2, .inl (upd f k 8))), (g14, .inl (cI, 2, .inl (upd g k 1)))] := hD
        refine lv_iinc (v := nI (k + 1)) (lv' := [(1, .int (nI (k + 1))), (0, .ref g0)]) hx hb d_Model_begin_22 hl (k := 1) rfl (nI_1 _) (by decide) rfl (fun ls hl => ?_)
        refine lv_goto (tgt := 2) hx hb d_Model_begin_25 (by decide) ?_
        exact ih2 (k + 1) (upd f k 8) (upd g k 1) (by omega) (by omega) (cs_fill h1) (cs_fill h2) _ _ _ (hP.sub (ws' := [(g0, .inr (9, [.ref g1, .ref g2, .ref g3, .ref g4, .ref g5, .ref g6, .ref g7, .ref g8, .ref g9, .ref g10, .ref g11, .ref g12, .ref g13, .ref g14, .ref g15, .int isz, .int ith, .int ico, .int icl, .int irw, .int ibi, .int ien, .int itr, .int ibl, .int ile, .int igr, .int ibk, .int ist, .int ibr])), (g13, .inl (cI, 2, .inl (upd f k 8))), (g14, .inl (cI, 2, .inl (upd g k 1)))]) [0, 1, 2] rfl) (hD.sub (ws' := [(g0, .inr (9, [.ref g1, .ref g2, .ref g3, .ref g4, .ref g5, .ref g6, .ref g7, .ref g8, .ref g9, .ref g10, .ref g11, .ref g12, .ref g13, .ref g14, .ref g15, .int isz, .int ith, .int ico, .int icl, .int irw, .int ibi, .int ien, .int itr, .int ibl, .int ile, .int igr, .int ibk, .int ist, .int ibr])), (g13, .inl (cI, 2, .inl (upd f k 8))), (g14, .inl (cI, 2, .inl (upd g k 1)))]) [0, 1, 2] (by decide) rfl) hS (lv_sub hl [1, 0] rfl)
  exact lp2 (3) 0 su mn (by omega) (by omega) (fun j hj => absurd hj (by omega)) (fun j hj => absurd hj (by omega)) _ _ _ (hP.sub (ws' := [(g0, .inr (9, [.ref g1, .ref g2, .ref g3, .ref g4, .ref g5, .ref g6, .ref g7, .ref g8, .ref g9, .ref g10, .ref g11, .ref g12, .ref g13, .ref g14, .ref g15, .int isz, .int ith, .int ico, .int icl, .int irw, .int ibi, .int ien, .int itr, .int ibl, .int ile, .int igr, .int ibk, .int ist, .int ibr])), (g13, .inl (cI, 2, .inl su)), (g14, .inl (cI, 2, .inl mn))]) [0, 1, 2] rfl) (hD.sub (ws' := [(g0, .inr (9, [.ref g1, .ref g2, .ref g3, .ref g4, .ref g5, .ref g6, .ref g7, .ref g8, .ref g9, .ref g10, .ref g11, .ref g12, .ref g13, .ref g14, .ref g15, .int isz, .int ith, .int ico, .int icl, .int irw, .int ibi, .int ien, .int itr, .int ibl, .int ile, .int igr, .int ibk, .int ist, .int ibr])), (g13, .inl (cI, 2, .inl su)), (g14, .inl (cI, 2, .inl mn))]) [0, 1, 2] (by decide) rfl) hS (lv_sub hl [1, 0] rfl)
def y_Model_coarse : MethodName := ⟨"TileForgeModel", "coarse", "(I)I"⟩
def ws_Model_coarse : List Cond := .code y_Model_coarse prog_11_method_18_code 3 (some .int) :: GW
theorem mw_387 : (.code ⟨"TileForgeModel", "coarse", "(I)I"⟩ prog_11_method_18_code 3 (some .int) : Cond) ∈ GW := List.mem_filter.mpr ⟨(List.mem_append_right _ (List.mem_append_right _ (List.mem_append_right _ (List.mem_append_right _ (List.mem_of_getElem? (i := 127) rfl))))), rfl⟩
theorem hd_Model_coarse : y_Model_coarse.cls ≠ "java/lang/invoke/MethodHandle" ∧ y_Model_coarse.cls ≠ "java/lang/invoke/VarHandle" ∧ (parseMethodDescriptor y_Model_coarse.desc).map (fun d => d.parameters.length) = some 1 := by decide +kernel
theorem d_Model_coarse_0 : decode prog_11_method_18_code 0 = .ok (.iconst 0, 1) := by decide +kernel
theorem d_Model_coarse_1 : decode prog_11_method_18_code 1 = .ok (.istore_n 2, 1) := by decide +kernel
theorem d_Model_coarse_2 : decode prog_11_method_18_code 2 = .ok (.iload_n 2, 1) := by decide +kernel
theorem d_Model_coarse_3 : decode prog_11_method_18_code 3 = .ok (.bipush 10, 2) := by decide +kernel
theorem d_Model_coarse_5 : decode prog_11_method_18_code 5 = .ok (.if_icmp .ge 26, 3) := by decide +kernel
theorem d_Model_coarse_8 : decode prog_11_method_18_code 8 = .ok (.aload_n 0, 1) := by decide +kernel
theorem d_Model_coarse_9 : decode prog_11_method_18_code 9 = .ok (.getfield 49, 3) := by decide +kernel
theorem d_Model_coarse_12 : decode prog_11_method_18_code 12 = .ok (.iload_n 1, 1) := by decide +kernel
theorem d_Model_coarse_13 : decode prog_11_method_18_code 13 = .ok (.iaload, 1) := by decide +kernel
theorem d_Model_coarse_14 : decode prog_11_method_18_code 14 = .ok (.iload_n 2, 1) := by decide +kernel
theorem d_Model_coarse_15 : decode prog_11_method_18_code 15 = .ok (.ishl, 1) := by decide +kernel
theorem d_Model_coarse_16 : decode prog_11_method_18_code 16 = .ok (.aload_n 0, 1) := by decide +kernel
theorem d_Model_coarse_17 : decode prog_11_method_18_code 17 = .ok (.getfield 46, 3) := by decide +kernel
theorem d_Model_coarse_20 : decode prog_11_method_18_code 20 = .ok (.iload_n 1, 1) := by decide +kernel
theorem d_Model_coarse_21 : decode prog_11_method_18_code 21 = .ok (.iaload, 1) := by decide +kernel
theorem d_Model_coarse_22 : decode prog_11_method_18_code 22 = .ok (.if_icmp .ge 9, 3) := by decide +kernel
theorem d_Model_coarse_25 : decode prog_11_method_18_code 25 = .ok (.iinc 2 1, 3) := by decide +kernel
theorem d_Model_coarse_28 : decode prog_11_method_18_code 28 = .ok (.goto (-26), 3) := by decide +kernel
theorem d_Model_coarse_31 : decode prog_11_method_18_code 31 = .ok (.iload_n 2, 1) := by decide +kernel
theorem d_Model_coarse_32 : decode prog_11_method_18_code 32 = .ok (.ireturn, 1) := by decide +kernel
def q_mo_coarse (cI : ClassId) (g0 : Nat) (g1 : Nat) (g2 : Nat) (g3 : Nat) (g4 : Nat) (g5 : Nat) (g6 : Nat) (g7 : Nat) (g8 : Nat) (g9 : Nat) (g10 : Nat) (g11 : Nat) (g12 : Nat) (g13 : Nat) (g14 : Nat) (g15 : Nat) (isz : Int32) (ith : Int32) (ico : Int32) (icl : Int32) (irw : Int32) (ibi : Int32) (ien : Int32) (itr : Int32) (ibl : Int32) (ile : Int32) (igr : Int32) (ibk : Int32) (ist : Int32) (ibr : Int32) (su : Nat → Int32) (mn : Nat → Int32) (ct : Nat) : Int32 → va_W → Prop := fun rr ww => rr = (nI (lowK (mn ct) (su ct))) ∧ ww = [(g0, .inr (9, [.ref g1, .ref g2, .ref g3, .ref g4, .ref g5, .ref g6, .ref g7, .ref g8, .ref g9, .ref g10, .ref g11, .ref g12, .ref g13, .ref g14, .ref g15, .int isz, .int ith, .int ico, .int icl, .int irw, .int ibi, .int ien, .int itr, .int ibl, .int ile, .int igr, .int ibk, .int ist, .int ibr])), (g13, .inl (cI, 2, .inl su)), (g14, .inl (cI, 2, .inl mn))]
set_option maxHeartbeats 4000000 in
set_option maxRecDepth 100000 in
theorem c_mo_coarse (l : Launch) {D : va_G} {tys : List (ClassId × FieldType)} {cI : ClassId} (hcI : tys[0]? = some (cI, .int)) (g0 : Nat) (g1 : Nat) (g2 : Nat) (g3 : Nat) (g4 : Nat) (g5 : Nat) (g6 : Nat) (g7 : Nat) (g8 : Nat) (g9 : Nat) (g10 : Nat) (g11 : Nat) (g12 : Nat) (g13 : Nat) (g14 : Nat) (g15 : Nat) (isz : Int32) (ith : Int32) (ico : Int32) (icl : Int32) (irw : Int32) (ibi : Int32) (ien : Int32) (itr : Int32) (ibl : Int32) (ile : Int32) (igr : Int32) (ibk : Int32) (ist : Int32) (ibr : Int32) (su : Nat → Int32) (mn : Nat → Int32) (ct : Nat) (hc2 : ct < 2) : CsI l D vwCl tys y_Model_coarse ws_Model_coarse ({ frames := 0, cells := 0, slots := 0, locals := 0 } : Room) [.ref g0, .int (nI ct)] [(g0, .inr (9, [.ref g1, .ref g2, .ref g3, .ref g4, .ref g5, .ref g6, .ref g7, .ref g8, .ref g9, .ref g10, .ref g11, .ref g12, .ref g13, .ref g14, .ref g15, .int isz, .int ith, .int ico, .int icl, .int irw, .int ibi, .int ien, .int itr, .int ibl, .int ile, .int igr, .int ibk, .int ist, .int ibr])), (g13, .inl (cI, 2, .inl su)), (g14, .inl (cI, 2, .inl mn))] (q_mo_coarse cI g0 g1 g2 g3 g4 g5 g6 g7 g8 g9 g10 g11 g12 g13 g14 g15 isz ith ico icl irw ibi ien itr ibl ile igr ibk ist ibr su mn ct) 0 0 := by
  intro sz
  refine Met.ofW (cc := prog_11_method_18_code) (maxL := 3) (ret := (some .int)) (by decide) rfl ?_
  intro p e s m args below meth c s₁ B hml hv
  obtain ⟨rfl, hsz, hP, hK, hD0, hN⟩ := hv
  have hx := B.exec
  have hb := B.bytes
  have hr := B.returns
  have hts := atoms_spec (ws := ws_Model_coarse) B.pre
  have hown : s.vm.findClass "TileForgeModel" = some m.cls := findClass_of_methodNamed B.named
  have hlocks := B.notSynchronized
  subst hsz
  have hD := hD0.self (sz := s.heap.size)
  generalize hAe : va_A [(g0, .inr (9, [.ref g1, .ref g2, .ref g3, .ref g4, .ref g5, .ref g6, .ref g7, .ref g8, .ref g9, .ref g10, .ref g11, .ref g12, .ref g13, .ref g14, .ref g15, .int isz, .int ith, .int ico, .int icl, .int irw, .int ibi, .int ien, .int itr, .int ibl, .int ile, .int igr, .int ibk, .int ist, .int ibr])), (g13, .inl (cI, 2, .inl su)), (g14, .inl (cI, 2, .inl mn))] s.heap.size = A at hD ⊢
  have hA : ∀ q : Nat, s.heap.size ≤ q → A q := fun q h => by rw [← hAe]; exact Or.inr h
  have hS : va_S A s.heap s.heap [] := va_S.rf
  have hP : va_P D vwCl [(g0, .inr (9, [.ref g1, .ref g2, .ref g3, .ref g4, .ref g5, .ref g6, .ref g7, .ref g8, .ref g9, .ref g10, .ref g11, .ref g12, .ref g13, .ref g14, .ref g15, .int isz, .int ith, .int ico, .int icl, .int irw, .int ibi, .int ien, .int itr, .int ibl, .int ile, .int igr, .int ibk, .int ist, .int ibr])), (g13, .inl (cI, 2, .inl su)), (g14, .inl (cI, 2, .inl mn))] s.heap := hP
  have hl := lv_entry ([.ref g0, .int (nI ct)]) (n := 3) (Nat.le_of_ble_eq_true rfl)
  rw [lg_entry_eq]
  generalize (lg_sl ([.ref g0, .int (nI ct)]) ++ List.replicate (3 - (lg_sl ([.ref g0, .int (nI ct)])).length) Slot.unset).toArray = ls at hl ⊢
  have hl : lv_has ls 3 [(0, .ref g0), (1, .int (nI ct))] := hl
  refine lv_iconst (v := 0) hx hb d_Model_coarse_0 (by decide) ?_
  refine lv_istore_n (lv' := [(2, .int 0), (0, .ref g0), (1, .int (nI ct))]) hx hb d_Model_coarse_1 rfl hl (by decide) rfl (fun ls hl => ?_)
  have lp2 : ∀ (n : Nat) (k : Nat), (11 ≤ k + n) → (k ≤ 10) → (lowF (mn ct) (su ct) (10 - k) k = lowK (mn ct) (su ct)) → ∀ (H : Heap) (locs : List Loc) (ls : Array Slot), va_P D vwCl [(g0, .inr (9, [.ref g1, .ref g2, .ref g3, .ref g4, .ref g5, .ref g6, .ref g7, .ref g8, .ref g9, .ref g10, .ref g11, .ref g12, .ref g13, .ref g14, .ref g15, .int isz, .int ith, .int ico, .int icl, .int irw, .int ibi, .int ien, .int itr, .int ibl, .int ile, .int igr, .int ibk, .int ist, .int ibr])), (g13, .inl (cI, 2, .inl su)), (g14, .inl (cI, 2, .inl mn))] H → va_D A [(g0, .inr (9, [.ref g1, .ref g2, .ref g3, .ref g4, .ref g5, .ref g6, .ref g7, .ref g8, .ref g9, .ref g10, .ref g11, .ref g12, .ref g13, .ref g14, .ref g15, .int isz, .int ith, .int ico, .int icl, .int irw, .int ibi, .int ien, .int itr, .int ibl, .int ile, .int igr, .int ibk, .int ist, .int ibr])), (g13, .inl (cI, 2, .inl su)), (g14, .inl (cI, 2, .inl mn))] → va_S A s.heap H locs → lv_has ls 3 [(0, .ref g0), (1, .int (nI ct)), (2, .int (nI k))] → W p l e ({ frames := 0, cells := 0, slots := 0, locals := 0 } : Room) s m ([.ref g0, .int (nI ct)] : List Value).toArray below meth c H locs 0 0 (MQ below (va_Qi (q_mo_coarse cI g0 g1 g2 g3 g4 g5 g6 g7 g8 g9 g10 g11 g12 g13 g14 g15 isz ith ico icl irw ibi ien itr ibl ile igr ibk ist ibr su mn ct) (cs_B D vwCl tys A) A) ([.ref g0, .int (nI ct)] : List Value).toArray s 0 0 A) (F0 m 2 ls []) := by
    intro n
    induction n with
    | zero =>
      intro k hf hk he
      exact absurd hf (by omega)
    | succ n ih2 =>
      intro k hf hk he H locs ls hP hD hS hl
      refine lv_iload_n hx hb d_Model_coarse_2 rfl (lv_at hl 2 rfl) ?_
      refine lv_bipush (v := 10) hx hb d_Model_coarse_3 (by decide) ?_
      refine lv_icmp_ge (tgt := 31) hx hb d_Model_coarse_5 (by decide) (fun c_5 => ?_) (fun c_5 => ?_)
      · have hk2 := (nI_leI (a := 10) (b := k) (by decide) (by omega)).mp c_5
        have hk3 : lowK (mn ct) (su ct) = k := by (have h9 : k = 10 := (by omega)); subst h9; exact he.symm
        refine lv_iload_n hx hb d_Model_coarse_31 rfl (lv_at hl 2 rfl) ?_
        exact W.iret (v := (nI k)) hx hb hr (fun t ht hW => ⟨⟨(nI k), [(g0, .inr (9, [.ref g1, .ref g2, .ref g3, .ref g4, .ref g5, .ref g6, .ref g7, .ref g8, .ref g9, .ref g10, .ref g11, .ref g12, .ref g13, .ref g14, .ref g15, .int isz, .int ith, .int ico, .int icl, .int irw, .int ibi, .int ien, .int itr, .int ibl, .int ile, .int igr, .int ibk, .int ist, .int ibr])), (g13, .inl (cI, 2, .inl su)), (g14, .inl (cI, 2, .inl mn))], rfl, ⟨(by rw [hk3]), (rfl)⟩, by rw [ht]; exact hP, va_K.moved hW.alike hK, hD⟩, hS.F ht⟩) hS.2.2 d_Model_coarse_32
      · have hk2 : k < 10 := Nat.not_le.mp (fun h => c_5 ((nI_leI (a := 10) (b := k) (by decide) (by omega)).mpr h))
        refine lv_aload_n hx hb d_Model_coarse_8 rfl (lv_at hl 0 rfl) ?_
        refine va_get (D := D) (ci := 9) (v := .ref g14) (C := "TileForgeModel") (T := T_Model) (N := 29) hx hb hts (cs_in in_Model) hown hK hP 0 rfl rfl 13 (by decide) (hts _ (cs_m mw_386)) (fun _ h9 => h9) rfl d_Model_coarse_9 ?_
        refine lv_iload_n hx hb d_Model_coarse_12 rfl (lv_at hl 1 rfl) ?_
        refine cs_iald (j := ct) hx hb hK hcI hP 2 rfl (rfl) (hc2) (by decide) d_Model_coarse_13 ?_
        refine lv_iload_n hx hb d_Model_coarse_14 rfl (lv_at hl 2 rfl) ?_
        refine lv_ishl hx hb d_Model_coarse_15 ?_
        refine lv_aload_n hx hb d_Model_coarse_16 rfl (lv_at hl 0 rfl) ?_
        refine va_get (D := D) (ci := 9) (v := .ref g13) (C := "TileForgeModel") (T := T_Model) (N := 29) hx hb hts (cs_in in_Model) hown hK hP 0 rfl rfl 12 (by decide) (hts _ (cs_m mw_385)) (fun _ h9 => h9) rfl d_Model_coarse_17 ?_
        refine lv_iload_n hx hb d_Model_coarse_20 rfl (lv_at hl 1 rfl) ?_
        refine cs_iald (j := ct) hx hb hK hcI hP 1 rfl (rfl) (hc2) (by decide) d_Model_coarse_21 ?_
        refine lv_icmp_ge (tgt := 31) hx hb d_Model_coarse_22 (by decide) (fun c_22 => ?_) (fun c_22 => ?_)
        · have hk3 : lowK (mn ct) (su ct) = k := by rw [← he, show 10 - k = (9 - k) + 1 by omega, lowF, if_pos c_22]
          refine lv_iload_n hx hb d_Model_coarse_31 rfl (lv_at hl 2 rfl) ?_
          exact W.iret (v := (nI k)) hx hb hr (fun t ht hW => ⟨⟨(nI k), [(g0, .inr (9, [.ref g1, .ref g2, .ref g3, .ref g4, .ref g5, .ref g6, .ref g7, .ref g8, .ref g9, .ref g10, .ref g11, .ref g12, .ref g13, .ref g14, .ref g15, .int isz, .int ith, .int ico, .int icl, .int irw, .int ibi, .int ien, .int itr, .int ibl, .int ile, .int igr, .int ibk, .int ist, .int ibr])), (g13, .inl (cI, 2, .inl su)), (g14, .inl (cI, 2, .inl mn))], rfl, ⟨(by rw [hk3]), (rfl)⟩, by rw [ht]; exact hP, va_K.moved hW.alike hK, hD⟩, hS.F ht⟩) hS.2.2 d_Model_coarse_32
        · refine lv_iinc (v := nI (k + 1)) (lv' := [(2, .int (nI (k + 1))), (0, .ref g0), (1, .int (nI ct))]) hx hb d_Model_coarse_25 hl (k := 2) rfl (nI_1 _) (by decide) rfl (fun ls hl => ?_)
          refine lv_goto (tgt := 2) hx hb d_Model_coarse_28 (by decide) ?_
          exact ih2 (k + 1) (by omega) (by omega) (by rw [← he, show 10 - k = (10 - (k + 1)) + 1 by omega, lowF, if_neg c_22]) _ _ _ (hP.sub (ws' := [(g0, .inr (9, [.ref g1, .ref g2, .ref g3, .ref g4, .ref g5, .ref g6, .ref g7, .ref g8, .ref g9, .ref g10, .ref g11, .ref g12, .ref g13, .ref g14, .ref g15, .int isz, .int ith, .int ico, .int icl, .int irw, .int ibi, .int ien, .int itr, .int ibl, .int ile, .int igr, .int ibk, .int ist, .int ibr])), (g13, .inl (cI, 2, .inl su)), (g14, .inl (cI, 2, .inl mn))]) [0, 1, 2] rfl) (hD.sub (ws' := [(g0, .inr (9, [.ref g1, .ref g2, .ref g3, .ref g4, .ref g5, .ref g6, .ref g7, .ref g8, .ref g9, .ref g10, .ref g11, .ref g12, .ref g13, .ref g14, .ref g15, .int isz, .int ith, .int ico, .int icl, .int irw, .int ibi, .int ien, .int itr, .int ibl, .int ile, .int igr, .int ibk, .int ist, .int ibr])), (g13, .inl (cI, 2, .inl su)), (g14, .inl (cI, 2, .inl mn))]) [0, 1, 2] (by decide) rfl) hS (lv_sub hl [1, 2, 0] rfl)
  exact lp2 (11) 0 (by omega) (by omega) (rfl) _ _ _ (hP.sub (ws' := [(g0, .inr (9, [.ref g1, .ref g2, .ref g3, .ref g4, .ref g5, .ref g6, .ref g7, .ref g8, .ref g9, .ref g10, .ref g11, .ref g12, .ref g13, .ref g14, .ref g15, .int isz, .int ith, .int ico, .int icl, .int irw, .int ibi, .int ien, .int itr, .int ibl, .int ile, .int igr, .int ibk, .int ist, .int ibr])), (g13, .inl (cI, 2, .inl su)), (g14, .inl (cI, 2, .inl mn))]) [0, 1, 2] rfl) (hD.sub (ws' := [(g0, .inr (9, [.ref g1, .ref g2, .ref g3, .ref g4, .ref g5, .ref g6, .ref g7, .ref g8, .ref g9, .ref g10, .ref g11, .ref g12, .ref g13, .ref g14, .ref g15, .int isz, .int ith, .int ico, .int icl, .int irw, .int ibi, .int ien, .int itr, .int ibl, .int ile, .int igr, .int ibk, .int ist, .int ibr])), (g13, .inl (cI, 2, .inl su)), (g14, .inl (cI, 2, .inl mn))]) [0, 1, 2] (by decide) rfl) hS (lv_sub hl [1, 2, 0] rfl)
def y_Model_learn : MethodName := ⟨"TileForgeModel", "learn", "(II)V"⟩
def ws_Model_learn : List Cond := .code y_Model_learn prog_11_method_19_code 3 none :: GW
theorem mw_388 : (.code ⟨"TileForgeModel", "learn", "(II)V"⟩ prog_11_method_19_code 3 none : Cond) ∈ GW := List.mem_filter.mpr ⟨(List.mem_append_right _ (List.mem_append_right _ (List.mem_append_right _ (List.mem_append_right _ (List.mem_of_getElem? (i := 131) rfl))))), rfl⟩
theorem hd_Model_learn : y_Model_learn.cls ≠ "java/lang/invoke/MethodHandle" ∧ y_Model_learn.cls ≠ "java/lang/invoke/VarHandle" ∧ (parseMethodDescriptor y_Model_learn.desc).map (fun d => d.parameters.length) = some 2 := by decide +kernel
theorem d_Model_learn_0 : decode prog_11_method_19_code 0 = .ok (.aload_n 0, 1) := by decide +kernel
theorem d_Model_learn_1 : decode prog_11_method_19_code 1 = .ok (.getfield 46, 3) := by decide +kernel
theorem d_Model_learn_4 : decode prog_11_method_19_code 4 = .ok (.iload_n 1, 1) := by decide +kernel
theorem d_Model_learn_5 : decode prog_11_method_19_code 5 = .ok (.dup2, 1) := by decide +kernel
theorem d_Model_learn_6 : decode prog_11_method_19_code 6 = .ok (.iaload, 1) := by decide +kernel
theorem d_Model_learn_7 : decode prog_11_method_19_code 7 = .ok (.iload_n 2, 1) := by decide +kernel
theorem d_Model_learn_8 : decode prog_11_method_19_code 8 = .ok (.iadd, 1) := by decide +kernel
theorem d_Model_learn_9 : decode prog_11_method_19_code 9 = .ok (.iastore, 1) := by decide +kernel
theorem d_Model_learn_10 : decode prog_11_method_19_code 10 = .ok (.aload_n 0, 1) := by decide +kernel
theorem d_Model_learn_11 : decode prog_11_method_19_code 11 = .ok (.getfield 49, 3) := by decide +kernel
theorem d_Model_learn_14 : decode prog_11_method_19_code 14 = .ok (.iload_n 1, 1) := by decide +kernel
theorem d_Model_learn_15 : decode prog_11_method_19_code 15 = .ok (.dup2, 1) := by decide +kernel
theorem d_Model_learn_16 : decode prog_11_method_19_code 16 = .ok (.iaload, 1) := by decide +kernel
theorem d_Model_learn_17 : decode prog_11_method_19_code 17 = .ok (.iconst 1, 1) := by decide +kernel
theorem d_Model_learn_18 : decode prog_11_method_19_code 18 = .ok (.iadd, 1) := by decide +kernel
theorem d_Model_learn_19 : decode prog_11_method_19_code 19 = .ok (.iastore, 1) := by decide +kernel
theorem d_Model_learn_20 : decode prog_11_method_19_code 20 = .ok (.aload_n 0, 1) := by decide +kernel
theorem d_Model_learn_21 : decode prog_11_method_19_code 21 = .ok (.getfield 49, 3) := by decide +kernel
theorem d_Model_learn_24 : decode prog_11_method_19_code 24 = .ok (.iload_n 1, 1) := by decide +kernel
theorem d_Model_learn_25 : decode prog_11_method_19_code 25 = .ok (.iaload, 1) := by decide +kernel
theorem d_Model_learn_26 : decode prog_11_method_19_code 26 = .ok (.bipush 16, 2) := by decide +kernel
theorem d_Model_learn_28 : decode prog_11_method_19_code 28 = .ok (.if_icmp .ge 4, 3) := by decide +kernel
theorem d_Model_learn_31 : decode prog_11_method_19_code 31 = .ok (.return_, 1) := by decide +kernel
theorem d_Model_learn_32 : decode prog_11_method_19_code 32 = .ok (.aload_n 0, 1) := by decide +kernel
theorem d_Model_learn_33 : decode prog_11_method_19_code 33 = .ok (.getfield 46, 3) := by decide +kernel
theorem d_Model_learn_36 : decode prog_11_method_19_code 36 = .ok (.iload_n 1, 1) := by decide +kernel
theorem d_Model_learn_37 : decode prog_11_method_19_code 37 = .ok (.aload_n 0, 1) := by decide +kernel
theorem d_Model_learn_38 : decode prog_11_method_19_code 38 = .ok (.getfield 46, 3) := by decide +kernel
theorem d_Model_learn_41 : decode prog_11_method_19_code 41 = .ok (.iload_n 1, 1) := by decide +kernel
theorem d_Model_learn_42 : decode prog_11_method_19_code 42 = .ok (.iaload, 1) := by decide +kernel
theorem d_Model_learn_43 : decode prog_11_method_19_code 43 = .ok (.iconst 2, 1) := by decide +kernel
theorem d_Model_learn_44 : decode prog_11_method_19_code 44 = .ok (.idiv, 1) := by decide +kernel
theorem d_Model_learn_45 : decode prog_11_method_19_code 45 = .ok (.iastore, 1) := by decide +kernel
theorem d_Model_learn_46 : decode prog_11_method_19_code 46 = .ok (.aload_n 0, 1) := by decide +kernel
theorem d_Model_learn_47 : decode prog_11_method_19_code 47 = .ok (.getfield 49, 3) := by decide +kernel
theorem d_Model_learn_50 : decode prog_11_method_19_code 50 = .ok (.iload_n 1, 1) := by decide +kernel
theorem d_Model_learn_51 : decode prog_11_method_19_code 51 = .ok (.aload_n 0, 1) := by decide +kernel
theorem d_Model_learn_52 : decode prog_11_method_19_code 52 = .ok (.getfield 49, 3) := by decide +kernel
theorem d_Model_learn_55 : decode prog_11_method_19_code 55 = .ok (.iload_n 1, 1) := by decide +kernel
theorem d_Model_learn_56 : decode prog_11_method_19_code 56 = .ok (.iaload, 1) := by decide +kernel
theorem d_Model_learn_57 : decode prog_11_method_19_code 57 = .ok (.iconst 2, 1) := by decide +kernel
theorem d_Model_learn_58 : decode prog_11_method_19_code 58 = .ok (.idiv, 1) := by decide +kernel
theorem d_Model_learn_59 : decode prog_11_method_19_code 59 = .ok (.iastore, 1) := by decide +kernel
theorem d_Model_learn_60 : decode prog_11_method_19_code 60 = .ok (.return_, 1) := by decide +kernel
def q_mo_learn (cI : ClassId) (g0 : Nat) (g1 : Nat) (g2 : Nat) (g3 : Nat) (g4 : Nat) (g5 : Nat) (g6 : Nat) (g7 : Nat) (g8 : Nat) (g9 : Nat) (g10 : Nat) (g11 : Nat) (g12 : Nat) (g13 : Nat) (g14 : Nat) (g15 : Nat) (isz : Int32) (ith : Int32) (ico : Int32) (icl : Int32) (irw : Int32) (ibi : Int32) (ien : Int32) (itr : Int32) (ibl : Int32) (ile : Int32) (igr : Int32) (ibk : Int32) (ist : Int32) (ibr : Int32) (su : Nat → Int32) (mn : Nat → Int32) (ct : Nat) (u : Int32) : va_W → Prop := fun ww => ww = [(g0, .inr (9, [.ref g1, .ref g2, .ref g3, .ref g4, .ref g5, .ref g6, .ref g7, .ref g8, .ref g9, .ref g10, .ref g11, .ref g12, .ref g13, .ref g14, .ref g15, .int isz, .int ith, .int ico, .int icl, .int irw, .int ibi, .int ien, .int itr, .int ibl, .int ile, .int igr, .int ibk, .int ist, .int ibr])), (g13, .inl (cI, 2, .inl (upd su ct (lrS (su ct) (mn ct) u)))), (g14, .inl (cI, 2, .inl (upd mn ct (lrN (mn ct)))))]
set_option maxHeartbeats 4000000 in
set_option maxRecDepth 100000 in
theorem c_mo_learn (l : Launch) {D : va_G} {tys : List (ClassId × FieldType)} {cI : ClassId} (hcI : tys[0]? = some (cI, .int)) (g0 : Nat) (g1 : Nat) (g2 : Nat) (g3 : Nat) (g4 : Nat) (g5 : Nat) (g6 : Nat) (g7 : Nat) (g8 : Nat) (g9 : Nat) (g10 : Nat) (g11 : Nat) (g12 : Nat) (g13 : Nat) (g14 : Nat) (g15 : Nat) (isz : Int32) (ith : Int32) (ico : Int32) (icl : Int32) (irw : Int32) (ibi : Int32) (ien : Int32) (itr : Int32) (ibl : Int32) (ile : Int32) (igr : Int32) (ibk : Int32) (ist : Int32) (ibr : Int32) (su : Nat → Int32) (mn : Nat → Int32) (ct : Nat) (u : Int32) (hc2 : ct < 2) : CsV l D vwCl tys y_Model_learn ws_Model_learn ({ frames := 0, cells := 0, slots := 0, locals := 0 } : Room) [.ref g0, .int (nI ct), .int u] [(g0, .inr (9, [.ref g1, .ref g2, .ref g3, .ref g4, .ref g5, .ref g6, .ref g7, .ref g8, .ref g9, .ref g10, .ref g11, .ref g12, .ref g13, .ref g14, .ref g15, .int isz, .int ith, .int ico, .int icl, .int irw, .int ibi, .int ien, .int itr, .int ibl, .int ile, .int igr, .int ibk, .int ist, .int ibr])), (g13, .inl (cI, 2, .inl su)), (g14, .inl (cI, 2, .inl mn))] (q_mo_learn cI g0 g1 g2 g3 g4 g5 g6 g7 g8 g9 g10 g11 g12 g13 g14 g15 isz ith ico icl irw ibi ien itr ibl ile igr ibk ist ibr su mn ct u) 0 0 := by
  intro sz
  refine Met.ofW (cc := prog_11_method_19_code) (maxL := 3) (ret := none) (by decide) rfl ?_
  intro p e s m args below meth c s₁ B hml hv
  obtain ⟨rfl, hsz, hP, hK, hD0, hN⟩ := hv
  have hx := B.exec
  have hb := B.bytes
  have hr := B.returns
  have hts := atoms_spec (ws := ws_Model_learn) B.pre
  have hown : s.vm.findClass "TileForgeModel" = some m.cls := findClass_of_methodNamed B.named
  have hlocks := B.notSynchronized
  subst hsz
  have hD := hD0.self (sz := s.heap.size)
  generalize hAe : va_A [(g0, .inr (9, [.ref g1, .ref g2, .ref g3, .ref g4, .ref g5, .ref g6, .ref g7, .ref g8, .ref g9, .ref g10, .ref g11, .ref g12, .ref g13, .ref g14, .ref g15, .int isz, .int ith, .int ico, .int icl, .int irw, .int ibi, .int ien, .int itr, .int ibl, .int ile, .int igr, .int ibk, .int ist, .int ibr])), (g13, .inl (cI, 2, .inl su)), (g14, .inl (cI, 2, .inl mn))] s.heap.size = A at hD ⊢
  have hA : ∀ q : Nat, s.heap.size ≤ q → A q := fun q h => by rw [← hAe]; exact Or.inr h
  have hS : va_S A s.heap s.heap [] := va_S.rf
  have hP : va_P D vwCl [(g0, .inr (9, [.ref g1, .ref g2, .ref g3, .ref g4, .ref g5, .ref g6, .ref g7, .ref g8, .ref g9, .ref g10, .ref g11, .ref g12, .ref g13, .ref g14, .ref g15, .int isz, .int ith, .int ico, .int icl, .int irw, .int ibi, .int ien, .int itr, .int ibl, .int ile, .int igr, .int ibk, .int ist, .int ibr])), (g13, .inl (cI, 2, .inl su)), (g14, .inl (cI, 2, .inl mn))] s.heap := hP
  have hl := lv_entry ([.ref g0, .int (nI ct), .int u]) (n := 3) (Nat.le_of_ble_eq_true rfl)
  rw [lg_entry_eq]
  generalize (lg_sl ([.ref g0, .int (nI ct), .int u]) ++ List.replicate (3 - (lg_sl ([.ref g0, .int (nI ct), .int u])).length) Slot.unset).toArray = ls at hl ⊢
  have hl : lv_has ls 3 [(0, .ref g0), (1, .int (nI ct)), (2, .int u)] := hl
  refine lv_aload_n hx hb d_Model_learn_0 rfl (lv_at hl 0 rfl) ?_
  refine va_get (D := D) (ci := 9) (v := .ref g13) (C := "TileForgeModel") (T := T_Model) (N := 29) hx hb hts (cs_in in_Model) hown hK hP 0 rfl rfl 12 (by decide) (hts _ (cs_m mw_385)) (fun _ h9 => h9) rfl d_Model_learn_1 ?_
  refine lv_iload_n hx hb d_Model_learn_4 rfl (lv_at hl 1 rfl) ?_
  refine lv_dup2_11 hx hb d_Model_learn_5 rfl rfl ?_
  refine cs_iald (j := ct) hx hb hK hcI hP 1 rfl (rfl) (hc2) (by decide) d_Model_learn_6 ?_
  refine lv_iload_n hx hb d_Model_learn_7 rfl (lv_at hl 2 rfl) ?_
  refine lv_iadd hx hb d_Model_learn_8 ?_
  refine cs_iast (j := ct) hx hb hK hcI hP hD hS 1 rfl (rfl) (hc2) (by decide) d_Model_learn_9 (fun H locs hP hD hS => ?_)
  have hP : va_P D vwCl [(g0, .inr (9, [.ref g1, .ref g2, .ref g3, .ref g4, .ref g5, .ref g6, .ref g7, .ref g8, .ref g9, .ref g10, .ref g11, .ref g12, .ref g13, .ref g14, .ref g15, .int isz, .int ith, .int ico, .int icl, .int irw, .int ibi, .int ien, .int itr, .int ibl, .int ile, .int igr, .int ibk, .int ist, .int ibr])), (g13, .inl (cI, 2, .inl (upd su ct ((su ct) + u)))), (g14, .inl (cI, 2, .inl mn))] H := hP
  have hD : va_D A [(g0, .inr (9, [.ref g1, .ref g2, .ref g3, .ref g4, .ref g5, .ref g6, .ref g7, .ref g8, .ref g9, .ref g10, .ref g11, .ref g12, .ref g13, .ref g14, .ref g15, .int isz, .int ith, .int ico, .int icl, .int irw, .int ibi, .int ien, .int itr, .int ibl, .int ile, .int igr, .int ibk, .int ist, .int ibr])), (g13, .inl (cI, 2, .inl (upd su ct ((su ct) + u)))), (g14, .inl (cI, 2, .inl mn))] := hD
  refine lv_aload_n hx hb d_Model_learn_10 rfl (lv_at hl 0 rfl) ?_
  refine va_get (D := D) (ci := 9) (v := .ref g14) (C := "TileForgeModel") (T := T_Model) (N := 29) hx hb hts (cs_in in_Model) hown hK hP 0 rfl rfl 13 (by decide) (hts _ (cs_m mw_386)) (fun _ h9 => h9) rfl d_Model_learn_11 ?_
  refine lv_iload_n hx hb d_Model_learn_14 rfl (lv_at hl 1 rfl) ?_
  refine lv_dup2_11 hx hb d_Model_learn_15 rfl rfl ?_
  refine cs_iald (j := ct) hx hb hK hcI hP 2 rfl (rfl) (hc2) (by decide) d_Model_learn_16 ?_
  refine lv_iconst (v := 1) hx hb d_Model_learn_17 (by decide) ?_
  refine lv_iadd hx hb d_Model_learn_18 ?_
  refine cs_iast (j := ct) hx hb hK hcI hP hD hS 2 rfl (rfl) (hc2) (by decide) d_Model_learn_19 (fun H locs hP hD hS => ?_)
  have hP : va_P D vwCl [(g0, .inr (9, [.ref g1, .ref g2, .ref g3, .ref g4, .ref g5, .ref g6, .ref g7, .ref g8, .ref g9, .ref g10, .ref g11, .ref g12, .ref g13, .ref g14, .ref g15, .int isz, .int ith, .int ico, .int icl, .int irw, .int ibi, .int ien, .int itr, .int ibl, .int ile, .int igr, .int ibk, .int ist, .int ibr])), (g13, .inl (cI, 2, .inl (upd su ct ((su ct) + u)))), (g14, .inl (cI, 2, .inl (upd mn ct ((mn ct) + 1))))] H := hP
  have hD : va_D A [(g0, .inr (9, [.ref g1, .ref g2, .ref g3, .ref g4, .ref g5, .ref g6, .ref g7, .ref g8, .ref g9, .ref g10, .ref g11, .ref g12, .ref g13, .ref g14, .ref g15, .int isz, .int ith, .int ico, .int icl, .int irw, .int ibi, .int ien, .int itr, .int ibl, .int ile, .int igr, .int ibk, .int ist, .int ibr])), (g13, .inl (cI, 2, .inl (upd su ct ((su ct) + u)))), (g14, .inl (cI, 2, .inl (upd mn ct ((mn ct) + 1))))] := hD
  refine lv_aload_n hx hb d_Model_learn_20 rfl (lv_at hl 0 rfl) ?_
  refine va_get (D := D) (ci := 9) (v := .ref g14) (C := "TileForgeModel") (T := T_Model) (N := 29) hx hb hts (cs_in in_Model) hown hK hP 0 rfl rfl 13 (by decide) (hts _ (cs_m mw_386)) (fun _ h9 => h9) rfl d_Model_learn_21 ?_
  refine lv_iload_n hx hb d_Model_learn_24 rfl (lv_at hl 1 rfl) ?_
  refine cs_iald (j := ct) hx hb hK hcI hP 2 rfl (rfl) (hc2) (by decide) d_Model_learn_25 ?_
  refine cs_top (y := mn ct + 1) (pk_us) ?_
  refine lv_bipush (v := 16) hx hb d_Model_learn_26 (by decide) ?_
  refine lv_icmp_ge (tgt := 32) hx hb d_Model_learn_28 (by decide) (fun c_28 => ?_) (fun c_28 => ?_)
  · refine lv_aload_n hx hb d_Model_learn_32 rfl (lv_at hl 0 rfl) ?_
    refine va_get (D := D) (ci := 9) (v := .ref g13) (C := "TileForgeModel") (T := T_Model) (N := 29) hx hb hts (cs_in in_Model) hown hK hP 0 rfl rfl 12 (by decide) (hts _ (cs_m mw_385)) (fun _ h9 => h9) rfl d_Model_learn_33 ?_
    refine lv_iload_n hx hb d_Model_learn_36 rfl (lv_at hl 1 rfl) ?_
    refine lv_aload_n hx hb d_Model_learn_37 rfl (lv_at hl 0 rfl) ?_
    refine va_get (D := D) (ci := 9) (v := .ref g13) (C := "TileForgeModel") (T := T_Model) (N := 29) hx hb hts (cs_in in_Model) hown hK hP 0 rfl rfl 12 (by decide) (hts _ (cs_m mw_385)) (fun _ h9 => h9) rfl d_Model_learn_38 ?_
    refine lv_iload_n hx hb d_Model_learn_41 rfl (lv_at hl 1 rfl) ?_
    refine cs_iald (j := ct) hx hb hK hcI hP 1 rfl (rfl) (hc2) (by decide) d_Model_learn_42 ?_
    refine cs_top (y := su ct + u) (pk_us) ?_
    refine lv_iconst (v := 2) hx hb d_Model_learn_43 (by decide) ?_
    refine lv_idiv hx hb d_Model_learn_44 (by decide) ?_
    refine cs_iast (j := ct) hx hb hK hcI hP hD hS 1 rfl (rfl) (hc2) (by decide) d_Model_learn_45 (fun H locs hP hD hS => ?_)
    have hP : va_P D vwCl [(g0, .inr (9, [.ref g1, .ref g2, .ref g3, .ref g4, .ref g5, .ref g6, .ref g7, .ref g8, .ref g9, .ref g10, .ref g11, .ref g12, .ref g13, .ref g14, .ref g15, .int isz, .int ith, .int ico, .int icl, .int irw, .int ibi, .int ien, .int itr, .int ibl, .int ile, .int igr, .int ibk, .int ist, .int ibr])), (g13, .inl (cI, 2, .inl (upd (upd su ct ((su ct) + u)) ct ((su ct + u) / 2)))), (g14, .inl (cI, 2, .inl (upd mn ct ((mn ct) + 1))))] H := hP
    have hD : va_D A [(g0, .inr (9, [.ref g1, .ref g2, .ref g3, .ref g4, .ref g5, .ref g6, .ref g7, .ref g8, .ref g9, .ref g10, .ref g11, .ref g12, .ref g13, .ref g14, .ref g15, .int isz, .int ith, .int ico, .int icl, .int irw, .int ibi, .int ien, .int itr, .int ibl, .int ile, .int igr, .int ibk, .int ist, .int ibr])), (g13, .inl (cI, 2, .inl (upd (upd su ct ((su ct) + u)) ct ((su ct + u) / 2)))), (g14, .inl (cI, 2, .inl (upd mn ct ((mn ct) + 1))))] := hD
    refine lv_aload_n hx hb d_Model_learn_46 rfl (lv_at hl 0 rfl) ?_
    refine va_get (D := D) (ci := 9) (v := .ref g14) (C := "TileForgeModel") (T := T_Model) (N := 29) hx hb hts (cs_in in_Model) hown hK hP 0 rfl rfl 13 (by decide) (hts _ (cs_m mw_386)) (fun _ h9 => h9) rfl d_Model_learn_47 ?_
    refine lv_iload_n hx hb d_Model_learn_50 rfl (lv_at hl 1 rfl) ?_
    refine lv_aload_n hx hb d_Model_learn_51 rfl (lv_at hl 0 rfl) ?_
    refine va_get (D := D) (ci := 9) (v := .ref g14) (C := "TileForgeModel") (T := T_Model) (N := 29) hx hb hts (cs_in in_Model) hown hK hP 0 rfl rfl 13 (by decide) (hts _ (cs_m mw_386)) (fun _ h9 => h9) rfl d_Model_learn_52 ?_
    refine lv_iload_n hx hb d_Model_learn_55 rfl (lv_at hl 1 rfl) ?_
    refine cs_iald (j := ct) hx hb hK hcI hP 2 rfl (rfl) (hc2) (by decide) d_Model_learn_56 ?_
    refine cs_top (y := mn ct + 1) (pk_us) ?_
    refine lv_iconst (v := 2) hx hb d_Model_learn_57 (by decide) ?_
    refine lv_idiv hx hb d_Model_learn_58 (by decide) ?_
    refine cs_iast (j := ct) hx hb hK hcI hP hD hS 2 rfl (rfl) (hc2) (by decide) d_Model_learn_59 (fun H locs hP hD hS => ?_)
    have hP : va_P D vwCl [(g0, .inr (9, [.ref g1, .ref g2, .ref g3, .ref g4, .ref g5, .ref g6, .ref g7, .ref g8, .ref g9, .ref g10, .ref g11, .ref g12, .ref g13, .ref g14, .ref g15, .int isz, .int ith, .int ico, .int icl, .int irw, .int ibi, .int ien, .int itr, .int ibl, .int ile, .int igr, .int ibk, .int ist, .int ibr])), (g13, .inl (cI, 2, .inl (upd (upd su ct ((su ct) + u)) ct ((su ct + u) / 2)))), (g14, .inl (cI, 2, .inl (upd (upd mn ct ((mn ct) + 1)) ct ((mn ct + 1) / 2))))] H := hP
    have hD : va_D A [(g0, .inr (9, [.ref g1, .ref g2, .ref g3, .ref g4, .ref g5, .ref g6, .ref g7, .ref g8, .ref g9, .ref g10, .ref g11, .ref g12, .ref g13, .ref g14, .ref g15, .int isz, .int ith, .int ico, .int icl, .int irw, .int ibi, .int ien, .int itr, .int ibl, .int ile, .int igr, .int ibk, .int ist, .int ibr])), (g13, .inl (cI, 2, .inl (upd (upd su ct ((su ct) + u)) ct ((su ct + u) / 2)))), (g14, .inl (cI, 2, .inl (upd (upd mn ct ((mn ct) + 1)) ct ((mn ct + 1) / 2))))] := hD
    exact W.vret hx hb hr (fun t ht hW => ⟨⟨[(g0, .inr (9, [.ref g1, .ref g2, .ref g3, .ref g4, .ref g5, .ref g6, .ref g7, .ref g8, .ref g9, .ref g10, .ref g11, .ref g12, .ref g13, .ref g14, .ref g15, .int isz, .int ith, .int ico, .int icl, .int irw, .int ibi, .int ien, .int itr, .int ibl, .int ile, .int igr, .int ibk, .int ist, .int ibr])), (g13, .inl (cI, 2, .inl (upd (upd su ct ((su ct) + u)) ct ((su ct + u) / 2)))), (g14, .inl (cI, 2, .inl (upd (upd mn ct ((mn ct) + 1)) ct ((mn ct + 1) / 2))))], rfl, (show _ = _ from (by rw [lrS, lrN, if_pos c_28, if_pos c_28, upd_upd, upd_upd])), by rw [ht]; exact hP, va_K.moved hW.alike hK, hD⟩, hS.F ht⟩) hS.2.2 d_Model_learn_60
  · exact W.vret hx hb hr (fun t ht hW => ⟨⟨[(g0, .inr (9, [.ref g1, .ref g2, .ref g3, .ref g4, .ref g5, .ref g6, .ref g7, .ref g8, .ref g9, .ref g10, .ref g11, .ref g12, .ref g13, .ref g14, .ref g15, .int isz, .int ith, .int ico, .int icl, .int irw, .int ibi, .int ien, .int itr, .int ibl, .int ile, .int igr, .int ibk, .int ist, .int ibr])), (g13, .inl (cI, 2, .inl (upd su ct ((su ct) + u)))), (g14, .inl (cI, 2, .inl (upd mn ct ((mn ct) + 1))))], rfl, (show _ = _ from (by rw [lrS, lrN, if_neg c_28, if_neg c_28])), by rw [ht]; exact hP, va_K.moved hW.alike hK, hD⟩, hS.F ht⟩) hS.2.2 d_Model_learn_31
def y_Model_put : MethodName := ⟨"TileForgeModel", "put", "(II)V"⟩
def ws_Model_put : List Cond := .code y_Model_put prog_11_method_20_code 4 none :: GW
theorem mw_389 : (.code ⟨"TileForgeModel", "put", "(II)V"⟩ prog_11_method_20_code 4 none : Cond) ∈ GW := List.mem_filter.mpr ⟨(List.mem_append_right _ (List.mem_append_right _ (List.mem_append_right _ (List.mem_append_right _ (List.mem_of_getElem? (i := 87) rfl))))), rfl⟩
theorem hd_Model_put : y_Model_put.cls ≠ "java/lang/invoke/MethodHandle" ∧ y_Model_put.cls ≠ "java/lang/invoke/VarHandle" ∧ (parseMethodDescriptor y_Model_put.desc).map (fun d => d.parameters.length) = some 2 := by decide +kernel
theorem d_Model_put_0 : decode prog_11_method_20_code 0 = .ok (.iload_n 2, 1) := by decide +kernel
theorem d_Model_put_1 : decode prog_11_method_20_code 1 = .ok (.iconst 1, 1) := by decide +kernel
theorem d_Model_put_2 : decode prog_11_method_20_code 2 = .ok (.isub, 1) := by decide +kernel
theorem d_Model_put_3 : decode prog_11_method_20_code 3 = .ok (.istore_n 3, 1) := by decide +kernel
theorem d_Model_put_4 : decode prog_11_method_20_code 4 = .ok (.iload_n 3, 1) := by decide +kernel
theorem d_Model_put_5 : decode prog_11_method_20_code 5 = .ok (.ifCond .lt 77, 3) := by decide +kernel
theorem d_Model_put_8 : decode prog_11_method_20_code 8 = .ok (.aload_n 0, 1) := by decide +kernel
theorem d_Model_put_9 : decode prog_11_method_20_code 9 = .ok (.getfield 101, 3) := by decide +kernel
theorem d_Model_put_12 : decode prog_11_method_20_code 12 = .ok (.bipush 8, 2) := by decide +kernel
theorem d_Model_put_14 : decode prog_11_method_20_code 14 = .ok (.irem, 1) := by decide +kernel
theorem d_Model_put_15 : decode prog_11_method_20_code 15 = .ok (.ifCond .ne 16, 3) := by decide +kernel
theorem d_Model_put_18 : decode prog_11_method_20_code 18 = .ok (.aload_n 0, 1) := by decide +kernel
theorem d_Model_put_19 : decode prog_11_method_20_code 19 = .ok (.getfield 22, 3) := by decide +kernel
theorem d_Model_put_22 : decode prog_11_method_20_code 22 = .ok (.aload_n 0, 1) := by decide +kernel
theorem d_Model_put_23 : decode prog_11_method_20_code 23 = .ok (.getfield 101, 3) := by decide +kernel
theorem d_Model_put_26 : decode prog_11_method_20_code 26 = .ok (.bipush 8, 2) := by decide +kernel
theorem d_Model_put_28 : decode prog_11_method_20_code 28 = .ok (.idiv, 1) := by decide +kernel
theorem d_Model_put_29 : decode prog_11_method_20_code 29 = .ok (.iconst 0, 1) := by decide +kernel
theorem d_Model_put_30 : decode prog_11_method_20_code 30 = .ok (.iastore, 1) := by decide +kernel
theorem d_Model_put_31 : decode prog_11_method_20_code 31 = .ok (.iload_n 1, 1) := by decide +kernel
theorem d_Model_put_32 : decode prog_11_method_20_code 32 = .ok (.iload_n 3, 1) := by decide +kernel
theorem d_Model_put_33 : decode prog_11_method_20_code 33 = .ok (.ishr, 1) := by decide +kernel
theorem d_Model_put_34 : decode prog_11_method_20_code 34 = .ok (.iconst 1, 1) := by decide +kernel
theorem d_Model_put_35 : decode prog_11_method_20_code 35 = .ok (.iand, 1) := by decide +kernel
theorem d_Model_put_36 : decode prog_11_method_20_code 36 = .ok (.iconst 1, 1) := by decide +kernel
theorem d_Model_put_37 : decode prog_11_method_20_code 37 = .ok (.if_icmp .ne 29, 3) := by decide +kernel
theorem d_Model_put_40 : decode prog_11_method_20_code 40 = .ok (.aload_n 0, 1) := by decide +kernel
theorem d_Model_put_41 : decode prog_11_method_20_code 41 = .ok (.getfield 22, 3) := by decide +kernel
theorem d_Model_put_44 : decode prog_11_method_20_code 44 = .ok (.aload_n 0, 1) := by decide +kernel
theorem d_Model_put_45 : decode prog_11_method_20_code 45 = .ok (.getfield 101, 3) := by decide +kernel
theorem d_Model_put_48 : decode prog_11_method_20_code 48 = .ok (.bipush 8, 2) := by decide +kernel
theorem d_Model_put_50 : decode prog_11_method_20_code 50 = .ok (.idiv, 1) := by decide +kernel
theorem d_Model_put_51 : decode prog_11_method_20_code 51 = .ok (.dup2, 1) := by decide +kernel
theorem d_Model_put_52 : decode prog_11_method_20_code 52 = .ok (.iaload, 1) := by decide +kernel
theorem d_Model_put_53 : decode prog_11_method_20_code 53 = .ok (.sipush 128, 3) := by decide +kernel
theorem d_Model_put_56 : decode prog_11_method_20_code 56 = .ok (.aload_n 0, 1) := by decide +kernel
theorem d_Model_put_57 : decode prog_11_method_20_code 57 = .ok (.getfield 101, 3) := by decide +kernel
theorem d_Model_put_60 : decode prog_11_method_20_code 60 = .ok (.bipush 8, 2) := by decide +kernel
theorem d_Model_put_62 : decode prog_11_method_20_code 62 = .ok (.irem, 1) := by decide +kernel
theorem d_Model_put_63 : decode prog_11_method_20_code 63 = .ok (.ishr, 1) := by decide +kernel
theorem d_Model_put_64 : decode prog_11_method_20_code 64 = .ok (.ior, 1) := by decide +kernel
theorem d_Model_put_65 : decode prog_11_method_20_code 65 = .ok (.iastore, 1) := by decide +kernel
theorem d_Model_put_66 : decode prog_11_method_20_code 66 = .ok (.aload_n 0, 1) := by decide +kernel
theorem d_Model_put_67 : decode prog_11_method_20_code 67 = .ok (.dup, 1) := by decide +kernel
theorem d_Model_put_68 : decode prog_11_method_20_code 68 = .ok (.getfield 101, 3) := by decide +kernel
theorem d_Model_put_71 : decode prog_11_method_20_code 71 = .ok (.iconst 1, 1) := by decide +kernel
theorem d_Model_put_72 : decode prog_11_method_20_code 72 = .ok (.iadd, 1) := by decide +kernel
theorem d_Model_put_73 : decode prog_11_method_20_code 73 = .ok (.putfield 101, 3) := by decide +kernel
theorem d_Model_put_76 : decode prog_11_method_20_code 76 = .ok (.iinc 3 (-1), 3) := by decide +kernel
theorem d_Model_put_79 : decode prog_11_method_20_code 79 = .ok (.goto (-75), 3) := by decide +kernel
theorem d_Model_put_82 : decode prog_11_method_20_code 82 = .ok (.return_, 1) := by decide +kernel
theorem mw_390 : (.fieldLink "TileForgeModel" 101 "TileForgeModel" "bits" "I" : Cond) ∈ GW := List.mem_filter.mpr ⟨(List.mem_append_right _ (List.mem_append_right _ (List.mem_append_right _ (List.mem_append_left _ (List.mem_of_getElem? (i := 218) rfl))))), rfl⟩
theorem mw_391 : (.fieldLink "TileForgeModel" 22 "TileForgeModel" "laid" "[I" : Cond) ∈ GW := List.mem_filter.mpr ⟨(List.mem_append_right _ (List.mem_append_right _ (List.mem_append_right _ (List.mem_append_left _ (List.mem_of_getElem? (i := 202) rfl))))), rfl⟩
def q_mo_put (cI : ClassId) (g0 : Nat) (g1 : Nat) (g2 : Nat) (g3 : Nat) (g4 : Nat) (g5 : Nat) (g6 : Nat) (g7 : Nat) (g8 : Nat) (g9 : Nat) (g10 : Nat) (g11 : Nat) (g12 : Nat) (g13 : Nat) (g14 : Nat) (g15 : Nat) (isz : Int32) (ith : Int32) (ico : Int32) (icl : Int32) (irw : Int32) (nb : Nat) (ien : Int32) (itr : Int32) (ibl : Int32) (ile : Int32) (igr : Int32) (ibk : Int32) (ist : Int32) (ibr : Int32) (lad : Nat → Int32) (v : Int32) (cnt : Nat) : va_W → Prop := fun ww => ww = [(g0, .inr (9, [.ref g1, .ref g2, .ref g3, .ref g4, .ref g5, .ref g6, .ref g7, .ref g8, .ref g9, .ref g10, .ref g11, .ref g12, .ref g13, .ref g14, .ref g15, .int isz, .int ith, .int ico, .int icl, .int irw, .int (nI (nb + cnt)), .int ien, .int itr, .int ibl, .int ile, .int igr, .int ibk, .int ist, .int ibr])), (g5, .inl (cI, 600, .inl (pwF v cnt lad nb)))]
set_option maxHeartbeats 4000000 in
set_option maxRecDepth 100000 in
theorem c_mo_put (l : Launch) {D : va_G} {tys : List (ClassId × FieldType)} {cI : ClassId} (hcI : tys[0]? = some (cI, .int)) (g0 : Nat) (g1 : Nat) (g2 : Nat) (g3 : Nat) (g4 : Nat) (g5 : Nat) (g6 : Nat) (g7 : Nat) (g8 : Nat) (g9 : Nat) (g10 : Nat) (g11 : Nat) (g12 : Nat) (g13 : Nat) (g14 : Nat) (g15 : Nat) (isz : Int32) (ith : Int32) (ico : Int32) (icl : Int32) (irw : Int32) (nb : Nat) (ien : Int32) (itr : Int32) (ibl : Int32) (ile : Int32) (igr : Int32) (ibk : Int32) (ist : Int32) (ibr : Int32) (lad : Nat → Int32) (v : Int32) (cnt : Nat) (hnb : nb + cnt ≤ 4800) : CsV l D vwCl tys y_Model_put ws_Model_put ({ frames := 0, cells := 0, slots := 0, locals := 0 } : Room) [.ref g0, .int v, .int (nI cnt)] [(g0, .inr (9, [.ref g1, .ref g2, .ref g3, .ref g4, .ref g5, .ref g6, .ref g7, .ref g8, .ref g9, .ref g10, .ref g11, .ref g12, .ref g13, .ref g14, .ref g15, .int isz, .int ith, .int ico, .int icl, .int irw, .int (nI nb), .int ien, .int itr, .int ibl, .int ile, .int igr, .int ibk, .int ist, .int ibr])), (g5, .inl (cI, 600, .inl lad))] (q_mo_put cI g0 g1 g2 g3 g4 g5 g6 g7 g8 g9 g10 g11 g12 g13 g14 g15 isz ith ico icl irw nb ien itr ibl ile igr ibk ist ibr lad v cnt) 0 0 := by
  intro sz
  refine Met.ofW (cc := prog_11_method_20_code) (maxL := 4) (ret := none) (by decide) rfl ?_
  intro p e s m args below meth c s₁ B hml hv
  obtain ⟨rfl, hsz, hP, hK, hD0, hN⟩ := hv
  have hx := B.exec
  have hb := B.bytes
  have hr := B.returns
  have hts := atoms_spec (ws := ws_Model_put) B.pre
  have hown : s.vm.findClass "TileForgeModel" = some m.cls := findClass_of_methodNamed B.named
  have hlocks := B.notSynchronized
  subst hsz
  have hD := hD0.self (sz := s.heap.size)
  generalize hAe : va_A [(g0, .inr (9, [.ref g1, .ref g2, .ref g3, .ref g4, .ref g5, .ref g6, .ref g7, .ref g8, .ref g9, .ref g10, .ref g11, .ref g12, .ref g13, .ref g14, .ref g15, .int isz, .int ith, .int ico, .int icl, .int irw, .int (nI nb), .int ien, .int itr, .int ibl, .int ile, .int igr, .int ibk, .int ist, .int ibr])), (g5, .inl (cI, 600, .inl lad))] s.heap.size = A at hD ⊢
  have hA : ∀ q : Nat, s.heap.size ≤ q → A q := fun q h => by rw [← hAe]; exact Or.inr h
  have hS : va_S A s.heap s.heap [] := va_S.rf
  have hP : va_P D vwCl [(g0, .inr (9, [.ref g1, .ref g2, .ref g3, .ref g4, .ref g5, .ref g6, .ref g7, .ref g8, .ref g9, .ref g10, .ref g11, .ref g12, .ref g13, .ref g14, .ref g15, .int isz, .int ith, .int ico, .int icl, .int irw, .int (nI nb), .int ien, .int itr, .int ibl, .int ile, .int igr, .int ibk, .int ist, .int ibr])), (g5, .inl (cI, 600, .inl lad))] s.heap := hP
  have hl := lv_entry ([.ref g0, .int v, .int (nI cnt)]) (n := 4) (Nat.le_of_ble_eq_true rfl)
  rw [lg_entry_eq]
  generalize (lg_sl ([.ref g0, .int v, .int (nI cnt)]) ++ List.replicate (4 - (lg_sl ([.ref g0, .int v, .int (nI cnt)])).length) Slot.unset).toArray = ls at hl ⊢
  have hl : lv_has ls 4 [(0, .ref g0), (1, .int v), (2, .int (nI cnt))] := hl
  refine lv_iload_n hx hb d_Model_put_0 rfl (lv_at hl 2 rfl) ?_
  refine lv_iconst (v := 1) hx hb d_Model_put_1 (by decide) ?_
  refine lv_isub hx hb d_Model_put_2 ?_
  refine lv_istore_n (lv' := [(3, .int ((nI cnt) - 1)), (0, .ref g0), (1, .int v), (2, .int (nI cnt))]) hx hb d_Model_put_3 rfl hl (by decide) rfl (fun ls hl => ?_)
  have lp4 : ∀ (n : Nat) (i : Nat) (f : Nat → Int32) (n1 : Nat), (i + 1 ≤ n) → (n1 + i = nb + cnt) → (pwF v i f n1 = pwF v cnt lad nb) → ∀ (H : Heap) (locs : List Loc) (ls : Array Slot), va_P D vwCl [(g0, .inr (9, [.ref g1, .ref g2, .ref g3, .ref g4, .ref g5, .ref g6, .ref g7, .ref g8, .ref g9, .ref g10, .ref g11, .ref g12, .ref g13, .ref g14, .ref g15, .int isz, .int ith, .int ico, .int icl, .int irw, .int (nI n1), .int ien, .int itr, .int ibl, .int ile, .int igr, .int ibk, .int ist, .int ibr])), (g5, .inl (cI, 600, .inl f))] H → va_D A [(g0, .inr (9, [.ref g1, .ref g2, .ref g3, .ref g4, .ref g5, .ref g6, .ref g7, .ref g8, .ref g9, .ref g10, .ref g11, .ref g12, .ref g13, .ref g14, .ref g15, .int isz, .int ith, .int ico, .int icl, .int irw, .int (nI n1), .int ien, .int itr, .int ibl, .int ile, .int igr, .int ibk, .int ist, .int ibr])), (g5, .inl (cI, 600, .inl f))] → va_S A s.heap H locs → lv_has ls 4 [(0, .ref g0), (1, .int v), (2, .int (nI cnt)), (3, .int (nI i - 1))] → W p l e ({ frames := 0, cells := 0, slots := 0, locals := 0 } : Room) s m ([.ref g0, .int v, .int (nI cnt)] : List Value).toArray below meth c H locs 0 0 (MQ below (va_Qv (q_mo_put cI g0 g1 g2 g3 g4 g5 g6 g7 g8 g9 g10 g11 g12 g13 g14 g15 isz ith ico icl irw nb ien itr ibl ile igr ibk ist ibr lad v cnt) (cs_B D vwCl tys A) A) ([.ref g0, .int v, .int (nI cnt)] : List Value).toArray s 0 0 A) (F0 m 4 ls []) := by
    intro n
    induction n with
    | zero =>
      intro i f n1 hf h1 h2
      exact absurd hf (by omega)
    | succ n ih4 =>
      intro i f n1 hf h1 h2 H locs ls hP hD hS hl
      refine lv_iload_n hx hb d_Model_put_4 rfl (lv_at hl 3 rfl) ?_
      refine lv_if_lt (tgt := 82) hx hb d_Model_put_5 (by decide) (fun c_5 => ?_) (fun c_5 => ?_)
      · have hi : i = 0 := cs_dec0 c_5 (by omega)
        subst hi
        have h3 : f = pwF v cnt lad nb := h2
        have h4 : n1 = nb + cnt := by omega
        exact W.vret hx hb hr (fun t ht hW => ⟨⟨[(g0, .inr (9, [.ref g1, .ref g2, .ref g3, .ref g4, .ref g5, .ref g6, .ref g7, .ref g8, .ref g9, .ref g10, .ref g11, .ref g12, .ref g13, .ref g14, .ref g15, .int isz, .int ith, .int ico, .int icl, .int irw, .int (nI n1), .int ien, .int itr, .int ibl, .int ile, .int igr, .int ibk, .int ist, .int ibr])), (g5, .inl (cI, 600, .inl f))], rfl, (show _ = _ from (by rw [h3, h4])), by rw [ht]; exact hP, va_K.moved hW.alike hK, hD⟩, hS.F ht⟩) hS.2.2 d_Model_put_82
      · obtain ⟨j, hj⟩ : ∃ j, i = j + 1 := ⟨i - 1, by have := cs_dec1 c_5; omega⟩
        subst hj
        refine lv_aload_n hx hb d_Model_put_8 rfl (lv_at hl 0 rfl) ?_
        refine va_get (D := D) (ci := 9) (v := .int (nI n1)) (C := "TileForgeModel") (T := T_Model) (N := 29) hx hb hts (cs_in in_Model) hown hK hP 0 rfl rfl 20 (by decide) (hts _ (cs_m mw_390)) (fun _ h9 => h9) rfl d_Model_put_9 ?_
        refine lv_bipush (v := 8) hx hb d_Model_put_12 (by decide) ?_
        refine lv_irem hx hb d_Model_put_14 (by decide) ?_
        refine cs_top (y := nI (n1 % 8)) (pk_rem (a := n1) (d := 8) (by omega) (by decide) (by decide)) ?_
        refine lv_if_ne (tgt := 31) hx hb d_Model_put_15 (by decide) (fun c_15 => ?_) (fun c_15 => ?_)
        · have h8 : ¬ n1 % 8 = 0 := fun h => c_15 (by rw [h]; rfl)
          refine lv_iload_n hx hb d_Model_put_31 rfl (lv_at hl 1 rfl) ?_
          refine lv_iload_n hx hb d_Model_put_32 rfl (lv_at hl 3 rfl) ?_
          refine cs_top (y := nI j) (nI_pred j) ?_
          refine lv_ishr hx hb d_Model_put_33 ?_
          refine lv_iconst (v := 1) hx hb d_Model_put_34 (by decide) ?_
          refine lv_iand hx hb d_Model_put_35 ?_
          refine lv_iconst (v := 1) hx hb d_Model_put_36 (by decide) ?_
          refine lv_icmp_ne (tgt := 66) hx hb d_Model_put_37 (by decide) (fun c_37 => ?_) (fun c_37 => ?_)
          · refine lv_aload_n hx hb d_Model_put_66 rfl (lv_at hl 0 rfl) ?_
            refine lv_dup hx hb d_Model_put_67 rfl ?_
            refine va_get (D := D) (ci := 9) (v := .int (nI n1)) (C := "TileForgeModel") (T := T_Model) (N := 29) hx hb hts (cs_in in_Model) hown hK hP 0 rfl rfl 20 (by decide) (hts _ (cs_m mw_390)) (fun _ h9 => h9) rfl d_Model_put_68 ?_
            refine lv_iconst (v := 1) hx hb d_Model_put_71 (by decide) ?_
            refine lv_iadd hx hb d_Model_put_72 ?_
            refine cs_top (y := nI (n1 + 1)) (nI_1 n1) ?_
            refine va_put (D := D) (ci := 9) (v := .int (nI (n1 + 1))) (ty := .int) (C := "TileForgeModel") (T := T_Model) (N := 29) hx hb hts (cs_in in_Model) ty_Model tok_Model nm_Model hown hK hP hD hS 0 rfl rfl 20 (by decide) (hts _ (cs_m mw_390)) (fun _ h9 => h9) rfl (by decide +kernel) rfl rfl (Nat.le_of_ble_eq_true rfl) d_Model_put_73 (fun H locs hP hD hS => ?_)
            have hP : va_P D vwCl [(g0, .inr (9, [.ref g1, .ref g2, .ref g3, .ref g4, .ref g5, .ref g6, .ref g7, .ref g8, .ref g9, .ref g10, .ref g11, .ref g12, .ref g13, .ref g14, .ref g15, .int isz, .int ith, .int ico, .int icl, .int irw, .int (nI (n1 + 1)), .int ien, .int itr, .int ibl, .int ile, .int igr, .int ibk, .int ist, .int ibr])), (g5, .inl (cI, 600, .inl f))] H := hP
            have hD : va_D A [(g0, .inr (9, [.ref g1, .ref g2, .ref g3, .ref g4, .ref g5, .ref g6, .ref g7, .ref g8, .ref g9, .ref g10, .ref g11, .ref g12, .ref g13, .ref g14, .ref g15, .int isz, .int ith, .int ico, .int icl, .int irw, .int (nI (n1 + 1)), .int ien, .int itr, .int ibl, .int ile, .int igr, .int ibk, .int ist, .int ibr])), (g5, .inl (cI, 600, .inl f))] := hD
            refine lv_iinc (v := nI j - 1) (lv' := [(3, .int (nI j - 1)), (0, .ref g0), (1, .int v), (2, .int (nI cnt))]) hx hb d_Model_put_76 hl (k := 3) rfl (cs_dec j) (by decide) rfl (fun ls hl => ?_)
            refine lv_goto (tgt := 4) hx hb d_Model_put_79 (by decide) ?_
            exact ih4 j f (n1 + 1) (by omega) (by omega) (by rw [← h2, pwF, pw1, pw0, if_neg h8, if_neg c_37]) _ _ _ (hP.sub (ws' := [(g0, .inr (9, [.ref g1, .ref g2, .ref g3, .ref g4, .ref g5, .ref g6, .ref g7, .ref g8, .ref g9, .ref g10, .ref g11, .ref g12, .ref g13, .ref g14, .ref g15, .int isz, .int ith, .int ico, .int icl, .int irw, .int (nI (n1 + 1)), .int ien, .int itr, .int ibl, .int ile, .int igr, .int ibk, .int ist, .int ibr])), (g5, .inl (cI, 600, .inl f))]) [0, 1] rfl) (hD.sub (ws' := [(g0, .inr (9, [.ref g1, .ref g2, .ref g3, .ref g4, .ref g5, .ref g6, .ref g7, .ref g8, .ref g9, .ref g10, .ref g11, .ref g12, .ref g13, .ref g14, .ref g15, .int isz, .int ith, .int ico, .int icl, .int irw, .int (nI (n1 + 1)), .int ien, .int itr, .int ibl, .int ile, .int igr, .int ibk, .int ist, .int ibr])), (g5, .inl (cI, 600, .inl f))]) [0, 1] (by decide) rfl) hS (lv_sub hl [1, 2, 3, 0] rfl)
          · refine lv_aload_n hx hb d_Model_put_40 rfl (lv_at hl 0 rfl) ?_
            refine va_get (D := D) (ci := 9) (v := .ref g5) (C := "TileForgeModel") (T := T_Model) (N := 29) hx hb hts (cs_in in_Model) hown hK hP 0 rfl rfl 4 (by decide) (hts _ (cs_m mw_391)) (fun _ h9 => h9) rfl d_Model_put_41 ?_
            refine lv_aload_n hx hb d_Model_put_44 rfl (lv_at hl 0 rfl) ?_
            refine va_get (D := D) (ci := 9) (v := .int (nI n1)) (C := "TileForgeModel") (T := T_Model) (N := 29) hx hb hts (cs_in in_Model) hown hK hP 0 rfl rfl 20 (by decide) (hts _ (cs_m mw_390)) (fun _ h9 => h9) rfl d_Model_put_45 ?_
            refine lv_bipush (v := 8) hx hb d_Model_put_48 (by decide) ?_
            refine lv_idiv hx hb d_Model_put_50 (by decide) ?_
            refine cs_top (y := nI (n1 / 8)) (pk_div (a := n1) (d := 8) (by omega) (by decide) (by decide)) ?_
            refine lv_dup2_11 hx hb d_Model_put_51 rfl rfl ?_
            refine cs_iald (j := (n1 / 8)) hx hb hK hcI hP 1 rfl (rfl) (by omega) (by decide) d_Model_put_52 ?_
            refine lv_sipush (v := 128) hx hb d_Model_put_53 (by decide) ?_
            refine lv_aload_n hx hb d_Model_put_56 rfl (lv_at hl 0 rfl) ?_
            refine va_get (D := D) (ci := 9) (v := .int (nI n1)) (C := "TileForgeModel") (T := T_Model) (N := 29) hx hb hts (cs_in in_Model) hown hK hP 0 rfl rfl 20 (by decide) (hts _ (cs_m mw_390)) (fun _ h9 => h9) rfl d_Model_put_57 ?_
            refine lv_bipush (v := 8) hx hb d_Model_put_60 (by decide) ?_
            refine lv_irem hx hb d_Model_put_62 (by decide) ?_
            refine cs_top (y := nI (n1 % 8)) (pk_rem (a := n1) (d := 8) (by omega) (by decide) (by decide)) ?_
            refine lv_ishr hx hb d_Model_put_63 ?_
            refine lv_ior hx hb d_Model_put_64 ?_
            refine cs_iast (j := (n1 / 8)) hx hb hK hcI hP hD hS 1 rfl (rfl) (by omega) (by decide) d_Model_put_65 (fun H locs hP hD hS => ?_)
            have hP : va_P D vwCl [(g0, .inr (9, [.ref g1, .ref g2, .ref g3, .ref g4, .ref g5, .ref g6, .ref g7, .ref g8, .ref g9, .ref g10, .ref g11, .ref g12, .ref g13, .ref g14, .ref g15, .int isz, .int ith, .int ico, .int icl, .int irw, .int (nI n1), .int ien, .int itr, .int ibl, .int ile, .int igr, .int ibk, .int ist, .int ibr])), (g5, .inl (cI, 600, .inl (upd f (n1 / 8) ((f (n1 / 8)) ||| (128 >>> ((nI (n1 % 8)) &&& 31))))))] H := hP
            have hD : va_D A [(g0, .inr (9, [.ref g1, .ref g2, .ref g3, .ref g4, .ref g5, .ref g6, .ref g7, .ref g8, .ref g9, .ref g10, .ref g11, .ref g12, .ref g13, .ref g14, .ref g15, .int isz, .int ith, .int ico, .int icl, .int irw, .int (nI n1), .int ien, .int itr, .int ibl, .int ile, .int igr, .int ibk, .int ist, .int ibr])), (g5, .inl (cI, 600, .inl (upd f (n1 / 8) ((f (n1 / 8)) ||| (128 >>> ((nI (n1 % 8)) &&& 31))))))] := hD
            refine lv_aload_n hx hb d_Model_put_66 rfl (lv_at hl 0 rfl) ?_
            refine lv_dup hx hb d_Model_put_67 rfl ?_
            refine va_get (D := D) (ci := 9) (v := .int (nI n1)) (C := "TileForgeModel") (T := T_Model) (N := 29) hx hb hts (cs_in in_Model) hown hK hP 0 rfl rfl 20 (by decide) (hts _ (cs_m mw_390)) (fun _ h9 => h9) rfl d_Model_put_68 ?_
            refine lv_iconst (v := 1) hx hb d_Model_put_71 (by decide) ?_
            refine lv_iadd hx hb d_Model_put_72 ?_
            refine cs_top (y := nI (n1 + 1)) (nI_1 n1) ?_
            refine va_put (D := D) (ci := 9) (v := .int (nI (n1 + 1))) (ty := .int) (C := "TileForgeModel") (T := T_Model) (N := 29) hx hb hts (cs_in in_Model) ty_Model tok_Model nm_Model hown hK hP hD hS 0 rfl rfl 20 (by decide) (hts _ (cs_m mw_390)) (fun _ h9 => h9) rfl (by decide +kernel) rfl rfl (Nat.le_of_ble_eq_true rfl) d_Model_put_73 (fun H locs hP hD hS => ?_)
            have hP : va_P D vwCl [(g0, .inr (9, [.ref g1, .ref g2, .ref g3, .ref g4, .ref g5, .ref g6, .ref g7, .ref g8, .ref g9, .ref g10, .ref g11, .ref g12, .ref g13, .ref g14, .ref g15, .int isz, .int ith, .int ico, .int icl, .int irw, .int (nI (n1 + 1)), .int ien, .int itr, .int ibl, .int ile, .int igr, .int ibk, .int ist, .int ibr])), (g5, .inl (cI, 600, .inl (upd f (n1 / 8) ((f (n1 / 8)) ||| (128 >>> ((nI (n1 % 8)) &&& 31))))))] H := hP
            have hD : va_D A [(g0, .inr (9, [.ref g1, .ref g2, .ref g3, .ref g4, .ref g5, .ref g6, .ref g7, .ref g8, .ref g9, .ref g10, .ref g11, .ref g12, .ref g13, .ref g14, .ref g15, .int isz, .int ith, .int ico, .int icl, .int irw, .int (nI (n1 + 1)), .int ien, .int itr, .int ibl, .int ile, .int igr, .int ibk, .int ist, .int ibr])), (g5, .inl (cI, 600, .inl (upd f (n1 / 8) ((f (n1 / 8)) ||| (128 >>> ((nI (n1 % 8)) &&& 31))))))] := hD
            refine lv_iinc (v := nI j - 1) (lv' := [(3, .int (nI j - 1)), (0, .ref g0), (1, .int v), (2, .int (nI cnt))]) hx hb d_Model_put_76 hl (k := 3) rfl (cs_dec j) (by decide) rfl (fun ls hl => ?_)
            refine lv_goto (tgt := 4) hx hb d_Model_put_79 (by decide) ?_
            exact ih4 j (upd f (n1 / 8) ((f (n1 / 8)) ||| (128 >>> ((nI (n1 % 8)) &&& 31)))) (n1 + 1) (by omega) (by omega) (by rw [← h2, pwF, pw1, pw0, if_neg h8, if_pos c_37]) _ _ _ (hP.sub (ws' := [(g0, .inr (9, [.ref g1, .ref g2, .ref g3, .ref g4, .ref g5, .ref g6, .ref g7, .ref g8, .ref g9, .ref g10, .ref g11, .ref g12, .ref g13, .ref g14, .ref g15, .int isz, .int ith, .int ico, .int icl, .int irw, .int (nI (n1 + 1)), .int ien, .int itr, .int ibl, .int ile, .int igr, .int ibk, .int ist, .int ibr])), (g5, .inl (cI, 600, .inl (upd f (n1 / 8) ((f (n1 / 8)) ||| (128 >>> ((nI (n1 % 8)) &&& 31))))))]) [0, 1] rfl) (hD.sub (ws' := [(g0, .inr (9, [.ref g1, .ref g2, .ref g3, .ref g4, .ref g5, .ref g6, .ref g7, .ref g8, .ref g9, .ref g10, .ref g11, .ref g12, .ref g13, .ref g14, .ref g15, .int isz, .int ith, .int ico, .int icl, .int irw, .int (nI (n1 + 1)), .int ien, .int itr, .int ibl, .int ile, .int igr, .int ibk, .int ist, .int ibr])), (g5, .inl (cI, 600, .inl (upd f (n1 / 8) ((f (n1 / 8)) ||| (128 >>> ((nI (n1 % 8)) &&& 31))))))]) [0, 1] (by decide) rfl) hS (lv_sub hl [1, 2, 3, 0] rfl)
        · have h8 : n1 % 8 = 0 := cs_nz0 c_15 (by omega)
          refine lv_aload_n hx hb d_Model_put_18 rfl (lv_at hl 0 rfl) ?_
          refine va_get (D := D) (ci := 9) (v := .ref g5) (C := "TileForgeModel") (T := T_Model) (N := 29) hx hb hts (cs_in in_Model) hown hK hP 0 rfl rfl 4 (by decide) (hts _ (cs_m mw_391)) (fun _ h9 => h9) rfl d_Model_put_19 ?_
          refine lv_aload_n hx hb d_Model_put_22 rfl (lv_at hl 0 rfl) ?_
          refine va_get (D := D) (ci := 9) (v := .int (nI n1)) (C := "TileForgeModel") (T := T_Model) (N := 29) hx hb hts (cs_in in_Model) hown hK hP 0 rfl rfl 20 (by decide) (hts _ (cs_m mw_390)) (fun _ h9 => h9) rfl d_Model_put_23 ?_
          refine lv_bipush (v := 8) hx hb d_Model_put_26 (by decide) ?_
          refine lv_idiv hx hb d_Model_put_28 (by decide) ?_
          refine cs_top (y := nI (n1 / 8)) (pk_div (a := n1) (d := 8) (by omega) (by decide) (by decide)) ?_
          refine lv_iconst (v := 0) hx hb d_Model_put_29 (by decide) ?_
          refine cs_iast (j := (n1 / 8)) hx hb hK hcI hP hD hS 1 rfl (rfl) (by omega) (by decide) d_Model_put_30 (fun H locs hP hD hS => ?_)
          have hP : va_P D vwCl [(g0, .inr (9, [.ref g1, .ref g2, .ref g3, .ref g4, .ref g5, .ref g6, .ref g7, .ref g8, .ref g9, .ref g10, .ref g11, .ref g12, .ref g13, .ref g14, .ref g15, .int isz, .int ith, .int ico, .int icl, .int irw, .int (nI n1), .int ien, .int itr, .int ibl, .int ile, .int igr, .int ibk, .int ist, .int ibr])), (g5, .inl (cI, 600, .inl (upd f (n1 / 8) 0)))] H := hP
          have hD : va_D A [(g0, .inr (9, [.ref g1, .ref g2, .ref g3, .ref g4, .ref g5, .ref g6, .ref g7, .ref g8, .ref g9, .ref g10, .ref g11, .ref g12, .ref g13, .ref g14, .ref g15, .int isz, .int ith, .int ico, .int icl, .int irw, .int (nI n1), .int ien, .int itr, .int ibl, .int ile, .int igr, .int ibk, .int ist, .int ibr])), (g5, .inl (cI, 600, .inl (upd f (n1 / 8) 0)))] := hD
          refine lv_iload_n hx hb d_Model_put_31 rfl (lv_at hl 1 rfl) ?_
          refine lv_iload_n hx hb d_Model_put_32 rfl (lv_at hl 3 rfl) ?_
          refine cs_top (y := nI j) (nI_pred j) ?_
          refine lv_ishr hx hb d_Model_put_33 ?_
          refine lv_iconst (v := 1) hx hb d_Model_put_34 (by decide) ?_
          refine lv_iand hx hb d_Model_put_35 ?_
          refine lv_iconst (v := 1) hx hb d_Model_put_36 (by decide) ?_
          refine lv_icmp_ne (tgt := 66) hx hb d_Model_put_37 (by decide) (fun c_37 => ?_) (fun c_37 => ?_)
          · refine lv_aload_n hx hb d_Model_put_66 rfl (lv_at hl 0 rfl) ?_
            refine lv_dup hx hb d_Model_put_67 rfl ?_
            refine va_get (D := D) (ci := 9) (v := .int (nI n1)) (C := "TileForgeModel") (T := T_Model) (N := 29) hx hb hts (cs_in in_Model) hown hK hP 0 rfl rfl 20 (by decide) (hts _ (cs_m mw_390)) (fun _ h9 => h9) rfl d_Model_put_68 ?_
            refine lv_iconst (v := 1) hx hb d_Model_put_71 (by decide) ?_
            refine lv_iadd hx hb d_Model_put_72 ?_
            refine cs_top (y := nI (n1 + 1)) (nI_1 n1) ?_
            refine va_put (D := D) (ci := 9) (v := .int (nI (n1 + 1))) (ty := .int) (C := "TileForgeModel") (T := T_Model) (N := 29) hx hb hts (cs_in in_Model) ty_Model tok_Model nm_Model hown hK hP hD hS 0 rfl rfl 20 (by decide) (hts _ (cs_m mw_390)) (fun _ h9 => h9) rfl (by decide +kernel) rfl rfl (Nat.le_of_ble_eq_true rfl) d_Model_put_73 (fun H locs hP hD hS => ?_)
            have hP : va_P D vwCl [(g0, .inr (9, [.ref g1, .ref g2, .ref g3, .ref g4, .ref g5, .ref g6, .ref g7, .ref g8, .ref g9, .ref g10, .ref g11, .ref g12, .ref g13, .ref g14, .ref g15, .int isz, .int ith, .int ico, .int icl, .int irw, .int (nI (n1 + 1)), .int ien, .int itr, .int ibl, .int ile, .int igr, .int ibk, .int ist, .int ibr])), (g5, .inl (cI, 600, .inl (upd f (n1 / 8) 0)))] H := hP
            have hD : va_D A [(g0, .inr (9, [.ref g1, .ref g2, .ref g3, .ref g4, .ref g5, .ref g6, .ref g7, .ref g8, .ref g9, .ref g10, .ref g11, .ref g12, .ref g13, .ref g14, .ref g15, .int isz, .int ith, .int ico, .int icl, .int irw, .int (nI (n1 + 1)), .int ien, .int itr, .int ibl, .int ile, .int igr, .int ibk, .int ist, .int ibr])), (g5, .inl (cI, 600, .inl (upd f (n1 / 8) 0)))] := hD
            refine lv_iinc (v := nI j - 1) (lv' := [(3, .int (nI j - 1)), (0, .ref g0), (1, .int v), (2, .int (nI cnt))]) hx hb d_Model_put_76 hl (k := 3) rfl (cs_dec j) (by decide) rfl (fun ls hl => ?_)
            refine lv_goto (tgt := 4) hx hb d_Model_put_79 (by decide) ?_
            exact ih4 j (upd f (n1 / 8) 0) (n1 + 1) (by omega) (by omega) (by rw [← h2, pwF, pw1, pw0, if_pos h8, if_neg c_37]) _ _ _ (hP.sub (ws' := [(g0, .inr (9, [.ref g1, .ref g2, .ref g3, .ref g4, .ref g5, .ref g6, .ref g7, .ref g8, .ref g9, .ref g10, .ref g11, .ref g12, .ref g13, .ref g14, .ref g15, .int isz, .int ith, .int ico, .int icl, .int irw, .int (nI (n1 + 1)), .int ien, .int itr, .int ibl, .int ile, .int igr, .int ibk, .int ist, .int ibr])), (g5, .inl (cI, 600, .inl (upd f (n1 / 8) 0)))]) [0, 1] rfl) (hD.sub (ws' := [(g0, .inr (9, [.ref g1, .ref g2, .ref g3, .ref g4, .ref g5, .ref g6, .ref g7, .ref g8, .ref g9, .ref g10, .ref g11, .ref g12, .ref g13, .ref g14, .ref g15, .int isz, .int ith, .int ico, .int icl, .int irw, .int (nI (n1 + 1)), .int ien, .int itr, .int ibl, .int ile, .int igr, .int ibk, .int ist, .int ibr])), (g5, .inl (cI, 600, .inl (upd f (n1 / 8) 0)))]) [0, 1] (by decide) rfl) hS (lv_sub hl [1, 2, 3, 0] rfl)
          · refine lv_aload_n hx hb d_Model_put_40 rfl (lv_at hl 0 rfl) ?_
            refine va_get (D := D) (ci := 9) (v := .ref g5) (C := "TileForgeModel") (T := T_Model) (N := 29) hx hb hts (cs_in in_Model) hown hK hP 0 rfl rfl 4 (by decide) (hts _ (cs_m mw_391)) (fun _ h9 => h9) rfl d_Model_put_41 ?_
            refine lv_aload_n hx hb d_Model_put_44 rfl (lv_at hl 0 rfl) ?_
            refine va_get (D := D) (ci := 9) (v := .int (nI n1)) (C := "TileForgeModel") (T := T_Model) (N := 29) hx hb hts (cs_in in_Model) hown hK hP 0 rfl rfl 20 (by decide) (hts _ (cs_m mw_390)) (fun _ h9 => h9) rfl d_Model_put_45 ?_
            refine lv_bipush (v := 8) hx hb d_Model_put_48 (by decide) ?_
            refine lv_idiv hx hb d_Model_put_50 (by decide) ?_
            refine cs_top (y := nI (n1 / 8)) (pk_div (a := n1) (d := 8) (by omega) (by decide) (by decide)) ?_
            refine lv_dup2_11 hx hb d_Model_put_51 rfl rfl ?_
            refine cs_iald (j := (n1 / 8)) hx hb hK hcI hP 1 rfl (rfl) (by omega) (by decide) d_Model_put_52 ?_
            refine lv_sipush (v := 128) hx hb d_Model_put_53 (by decide) ?_
            refine lv_aload_n hx hb d_Model_put_56 rfl (lv_at hl 0 rfl) ?_
            refine va_get (D := D) (ci := 9) (v := .int (nI n1)) (C := "TileForgeModel") (T := T_Model) (N := 29) hx hb hts (cs_in in_Model) hown hK hP 0 rfl rfl 20 (by decide) (hts _ (cs_m mw_390)) (fun _ h9 => h9) rfl d_Model_put_57 ?_
            refine lv_bipush (v := 8) hx hb d_Model_put_60 (by decide) ?_
            refine lv_irem hx hb d_Model_put_62 (by decide) ?_
            refine cs_top (y := nI (n1 % 8)) (pk_rem (a := n1) (d := 8) (by omega) (by decide) (by decide)) ?_
            refine lv_ishr hx hb d_Model_put_63 ?_
            refine lv_ior hx hb d_Model_put_64 ?_
            refine cs_iast (j := (n1 / 8)) hx hb hK hcI hP hD hS 1 rfl (rfl) (by omega) (by decide) d_Model_put_65 (fun H locs hP hD hS => ?_)
            have hP : va_P D vwCl [(g0, .inr (9, [.ref g1, .ref g2, .ref g3, .ref g4, .ref g5, .ref g6, .ref g7, .ref g8, .ref g9, .ref g10, .ref g11, .ref g12, .ref g13, .ref g14, .ref g15, .int isz, .int ith, .int ico, .int icl, .int irw, .int (nI n1), .int ien, .int itr, .int ibl, .int ile, .int igr, .int ibk, .int ist, .int ibr])), (g5, .inl (cI, 600, .inl (upd (upd f (n1 / 8) 0) (n1 / 8) (((upd f (n1 / 8) 0) (n1 / 8)) ||| (128 >>> ((nI (n1 % 8)) &&& 31))))))] H := hP
            have hD : va_D A [(g0, .inr (9, [.ref g1, .ref g2, .ref g3, .ref g4, .ref g5, .ref g6, .ref g7, .ref g8, .ref g9, .ref g10, .ref g11, .ref g12, .ref g13, .ref g14, .ref g15, .int isz, .int ith, .int ico, .int icl, .int irw, .int (nI n1), .int ien, .int itr, .int ibl, .int ile, .int igr, .int ibk, .int ist, .int ibr])), (g5, .inl (cI, 600, .inl (upd (upd f (n1 / 8) 0) (n1 / 8) (((upd f (n1 / 8) 0) (n1 / 8)) ||| (128 >>> ((nI (n1 % 8)) &&& 31))))))] := hD
            refine lv_aload_n hx hb d_Model_put_66 rfl (lv_at hl 0 rfl) ?_
            refine lv_dup hx hb d_Model_put_67 rfl ?_
            refine va_get (D := D) (ci := 9) (v := .int (nI n1)) (C := "TileForgeModel") (T := T_Model) (N := 29) hx hb hts (cs_in in_Model) hown hK hP 0 rfl rfl 20 (by decide) (hts _ (cs_m mw_390)) (fun _ h9 => h9) rfl d_Model_put_68 ?_
            refine lv_iconst (v := 1) hx hb d_Model_put_71 (by decide) ?_
            refine lv_iadd hx hb d_Model_put_72 ?_
            refine cs_top (y := nI (n1 + 1)) (nI_1 n1) ?_
            refine va_put (D := D) (ci := 9) (v := .int (nI (n1 + 1))) (ty := .int) (C := "TileForgeModel") (T := T_Model) (N := 29) hx hb hts (cs_in in_Model) ty_Model tok_Model nm_Model hown hK hP hD hS 0 rfl rfl 20 (by decide) (hts _ (cs_m mw_390)) (fun _ h9 => h9) rfl (by decide +kernel) rfl rfl (Nat.le_of_ble_eq_true rfl) d_Model_put_73 (fun H locs hP hD hS => ?_)
            have hP : va_P D vwCl [(g0, .inr (9, [.ref g1, .ref g2, .ref g3, .ref g4, .ref g5, .ref g6, .ref g7, .ref g8, .ref g9, .ref g10, .ref g11, .ref g12, .ref g13, .ref g14, .ref g15, .int isz, .int ith, .int ico, .int icl, .int irw, .int (nI (n1 + 1)), .int ien, .int itr, .int ibl, .int ile, .int igr, .int ibk, .int ist, .int ibr])), (g5, .inl (cI, 600, .inl (upd (upd f (n1 / 8) 0) (n1 / 8) (((upd f (n1 / 8) 0) (n1 / 8)) ||| (128 >>> ((nI (n1 % 8)) &&& 31))))))] H := hP
            have hD : va_D A [(g0, .inr (9, [.ref g1, .ref g2, .ref g3, .ref g4, .ref g5, .ref g6, .ref g7, .ref g8, .ref g9, .ref g10, .ref g11, .ref g12, .ref g13, .ref g14, .ref g15, .int isz, .int ith, .int ico, .int icl, .int irw, .int (nI (n1 + 1)), .int ien, .int itr, .int ibl, .int ile, .int igr, .int ibk, .int ist, .int ibr])), (g5, .inl (cI, 600, .inl (upd (upd f (n1 / 8) 0) (n1 / 8) (((upd f (n1 / 8) 0) (n1 / 8)) ||| (128 >>> ((nI (n1 % 8)) &&& 31))))))] := hD
            refine lv_iinc (v := nI j - 1) (lv' := [(3, .int (nI j - 1)), (0, .ref g0), (1, .int v), (2, .int (nI cnt))]) hx hb d_Model_put_76 hl (k := 3) rfl (cs_dec j) (by decide) rfl (fun ls hl => ?_)
            refine lv_goto (tgt := 4) hx hb d_Model_put_79 (by decide) ?_
            exact ih4 j (upd (upd f (n1 / 8) 0) (n1 / 8) (((upd f (n1 / 8) 0) (n1 / 8)) ||| (128 >>> ((nI (n1 % 8)) &&& 31)))) (n1 + 1) (by omega) (by omega) (by rw [← h2, pwF, pw1, pw0, if_pos h8, if_pos c_37]) _ _ _ (hP.sub (ws' := [(g0, .inr (9, [.ref g1, .ref g2, .ref g3, .ref g4, .ref g5, .ref g6, .ref g7, .ref g8, .ref g9, .ref g10, .ref g11, .ref g12, .ref g13, .ref g14, .ref g15, .int isz, .int ith, .int ico, .int icl, .int irw, .int (nI (n1 + 1)), .int ien, .int itr, .int ibl, .int ile, .int igr, .int ibk, .int ist, .int ibr])), (g5, .inl (cI, 600, .inl (upd (upd f (n1 / 8) 0) (n1 / 8) (((upd f (n1 / 8) 0) (n1 / 8)) ||| (128 >>> ((nI (n1 % 8)) &&& 31))))))]) [0, 1] rfl) (hD.sub (ws' := [(g0, .inr (9, [.ref g1, .ref g2, .ref g3, .ref g4, .ref g5, .ref g6, .ref g7, .ref g8, .ref g9, .ref g10, .ref g11, .ref g12, .ref g13, .ref g14, .ref g15, .int isz, .int ith, .int ico, .int icl, .int irw, .int (nI (n1 + 1)), .int ien, .int itr, .int ibl, .int ile, .int igr, .int ibk, .int ist, .int ibr])), (g5, .inl (cI, 600, .inl (upd (upd f (n1 / 8) 0) (n1 / 8) (((upd f (n1 / 8) 0) (n1 / 8)) ||| (128 >>> ((nI (n1 % 8)) &&& 31))))))]) [0, 1] (by decide) rfl) hS (lv_sub hl [1, 2, 3, 0] rfl)
  exact lp4 (cnt + 1) cnt lad nb (by omega) (rfl) (rfl) _ _ _ (hP.sub (ws' := [(g0, .inr (9, [.ref g1, .ref g2, .ref g3, .ref g4, .ref g5, .ref g6, .ref g7, .ref g8, .ref g9, .ref g10, .ref g11, .ref g12, .ref g13, .ref g14, .ref g15, .int isz, .int ith, .int ico, .int icl, .int irw, .int (nI nb), .int ien, .int itr, .int ibl, .int ile, .int igr, .int ibk, .int ist, .int ibr])), (g5, .inl (cI, 600, .inl lad))]) [0, 1] rfl) (hD.sub (ws' := [(g0, .inr (9, [.ref g1, .ref g2, .ref g3, .ref g4, .ref g5, .ref g6, .ref g7, .ref g8, .ref g9, .ref g10, .ref g11, .ref g12, .ref g13, .ref g14, .ref g15, .int isz, .int ith, .int ico, .int icl, .int irw, .int (nI nb), .int ien, .int itr, .int ibl, .int ile, .int igr, .int ibk, .int ist, .int ibr])), (g5, .inl (cI, 600, .inl lad))]) [0, 1] (by decide) rfl) hS (lv_sub hl [1, 2, 3, 0] rfl)
def y_Model_putLevel : MethodName := ⟨"TileForgeModel", "putLevel", "(II)V"⟩
def ws_Model_putLevel : List Cond := .code y_Model_putLevel prog_11_method_21_code 7 none :: GW
theorem mw_392 : (.code ⟨"TileForgeModel", "putLevel", "(II)V"⟩ prog_11_method_21_code 7 none : Cond) ∈ GW := List.mem_filter.mpr ⟨(List.mem_append_right _ (List.mem_append_right _ (List.mem_append_right _ (List.mem_append_right _ (List.mem_of_getElem? (i := 123) rfl))))), rfl⟩
theorem hd_Model_putLevel : y_Model_putLevel.cls ≠ "java/lang/invoke/MethodHandle" ∧ y_Model_putLevel.cls ≠ "java/lang/invoke/VarHandle" ∧ (parseMethodDescriptor y_Model_putLevel.desc).map (fun d => d.parameters.length) = some 2 := by decide +kernel
theorem d_Model_putLevel_0 : decode prog_11_method_21_code 0 = .ok (.iload_n 1, 1) := by decide +kernel
theorem d_Model_putLevel_1 : decode prog_11_method_21_code 1 = .ok (.ifCond .le 11, 3) := by decide +kernel
theorem d_Model_putLevel_4 : decode prog_11_method_21_code 4 = .ok (.iconst 2, 1) := by decide +kernel
theorem d_Model_putLevel_5 : decode prog_11_method_21_code 5 = .ok (.iload_n 1, 1) := by decide +kernel
theorem d_Model_putLevel_6 : decode prog_11_method_21_code 6 = .ok (.imul, 1) := by decide +kernel
theorem d_Model_putLevel_7 : decode prog_11_method_21_code 7 = .ok (.iconst 1, 1) := by decide +kernel
theorem d_Model_putLevel_8 : decode prog_11_method_21_code 8 = .ok (.isub, 1) := by decide +kernel
theorem d_Model_putLevel_9 : decode prog_11_method_21_code 9 = .ok (.goto 7, 3) := by decide +kernel
theorem d_Model_putLevel_12 : decode prog_11_method_21_code 12 = .ok (.bipush (-2), 2) := by decide +kernel
theorem d_Model_putLevel_14 : decode prog_11_method_21_code 14 = .ok (.iload_n 1, 1) := by decide +kernel
theorem d_Model_putLevel_15 : decode prog_11_method_21_code 15 = .ok (.imul, 1) := by decide +kernel
theorem d_Model_putLevel_16 : decode prog_11_method_21_code 16 = .ok (.istore_n 3, 1) := by decide +kernel
theorem d_Model_putLevel_17 : decode prog_11_method_21_code 17 = .ok (.aload_n 0, 1) := by decide +kernel
theorem d_Model_putLevel_18 : decode prog_11_method_21_code 18 = .ok (.iload_n 2, 1) := by decide +kernel
theorem d_Model_putLevel_19 : decode prog_11_method_21_code 19 = .ok (.invokevirtual 104, 3) := by decide +kernel
theorem d_Model_putLevel_22 : decode prog_11_method_21_code 22 = .ok (.istore 4, 2) := by decide +kernel
theorem d_Model_putLevel_24 : decode prog_11_method_21_code 24 = .ok (.iload_n 3, 1) := by decide +kernel
theorem d_Model_putLevel_25 : decode prog_11_method_21_code 25 = .ok (.iload 4, 2) := by decide +kernel
theorem d_Model_putLevel_27 : decode prog_11_method_21_code 27 = .ok (.ishr, 1) := by decide +kernel
theorem d_Model_putLevel_28 : decode prog_11_method_21_code 28 = .ok (.istore 5, 2) := by decide +kernel
theorem d_Model_putLevel_30 : decode prog_11_method_21_code 30 = .ok (.iconst 0, 1) := by decide +kernel
theorem d_Model_putLevel_31 : decode prog_11_method_21_code 31 = .ok (.istore 6, 2) := by decide +kernel
theorem d_Model_putLevel_33 : decode prog_11_method_21_code 33 = .ok (.iload 6, 2) := by decide +kernel
theorem d_Model_putLevel_35 : decode prog_11_method_21_code 35 = .ok (.iload 5, 2) := by decide +kernel
theorem d_Model_putLevel_37 : decode prog_11_method_21_code 37 = .ok (.if_icmp .ge 22, 3) := by decide +kernel
theorem d_Model_putLevel_40 : decode prog_11_method_21_code 40 = .ok (.iload 6, 2) := by decide +kernel
theorem d_Model_putLevel_42 : decode prog_11_method_21_code 42 = .ok (.bipush 12, 2) := by decide +kernel
theorem d_Model_putLevel_44 : decode prog_11_method_21_code 44 = .ok (.if_icmp .ge 15, 3) := by decide +kernel
theorem d_Model_putLevel_47 : decode prog_11_method_21_code 47 = .ok (.aload_n 0, 1) := by decide +kernel
theorem d_Model_putLevel_48 : decode prog_11_method_21_code 48 = .ok (.iconst 1, 1) := by decide +kernel
theorem d_Model_putLevel_49 : decode prog_11_method_21_code 49 = .ok (.iconst 1, 1) := by decide +kernel
theorem d_Model_putLevel_50 : decode prog_11_method_21_code 50 = .ok (.invokevirtual 107, 3) := by decide +kernel
theorem d_Model_putLevel_53 : decode prog_11_method_21_code 53 = .ok (.iinc 6 1, 3) := by decide +kernel
theorem d_Model_putLevel_56 : decode prog_11_method_21_code 56 = .ok (.goto (-23), 3) := by decide +kernel
theorem d_Model_putLevel_59 : decode prog_11_method_21_code 59 = .ok (.iload 5, 2) := by decide +kernel
theorem d_Model_putLevel_61 : decode prog_11_method_21_code 61 = .ok (.bipush 12, 2) := by decide +kernel
theorem d_Model_putLevel_63 : decode prog_11_method_21_code 63 = .ok (.if_icmp .lt 13, 3) := by decide +kernel
theorem d_Model_putLevel_66 : decode prog_11_method_21_code 66 = .ok (.aload_n 0, 1) := by decide +kernel
theorem d_Model_putLevel_67 : decode prog_11_method_21_code 67 = .ok (.iload_n 3, 1) := by decide +kernel
theorem d_Model_putLevel_68 : decode prog_11_method_21_code 68 = .ok (.bipush 14, 2) := by decide +kernel
theorem d_Model_putLevel_70 : decode prog_11_method_21_code 70 = .ok (.invokevirtual 107, 3) := by decide +kernel
theorem d_Model_putLevel_73 : decode prog_11_method_21_code 73 = .ok (.goto 16, 3) := by decide +kernel
theorem d_Model_putLevel_76 : decode prog_11_method_21_code 76 = .ok (.aload_n 0, 1) := by decide +kernel
theorem d_Model_putLevel_77 : decode prog_11_method_21_code 77 = .ok (.iconst 0, 1) := by decide +kernel
theorem d_Model_putLevel_78 : decode prog_11_method_21_code 78 = .ok (.iconst 1, 1) := by decide +kernel
theorem d_Model_putLevel_79 : decode prog_11_method_21_code 79 = .ok (.invokevirtual 107, 3) := by decide +kernel
theorem d_Model_putLevel_82 : decode prog_11_method_21_code 82 = .ok (.aload_n 0, 1) := by decide +kernel
theorem d_Model_putLevel_83 : decode prog_11_method_21_code 83 = .ok (.iload_n 3, 1) := by decide +kernel
theorem d_Model_putLevel_84 : decode prog_11_method_21_code 84 = .ok (.iload 4, 2) := by decide +kernel
theorem d_Model_putLevel_86 : decode prog_11_method_21_code 86 = .ok (.invokevirtual 107, 3) := by decide +kernel
theorem d_Model_putLevel_89 : decode prog_11_method_21_code 89 = .ok (.aload_n 0, 1) := by decide +kernel
theorem d_Model_putLevel_90 : decode prog_11_method_21_code 90 = .ok (.iload_n 2, 1) := by decide +kernel
theorem d_Model_putLevel_91 : decode prog_11_method_21_code 91 = .ok (.iload_n 3, 1) := by decide +kernel
theorem d_Model_putLevel_92 : decode prog_11_method_21_code 92 = .ok (.invokevirtual 110, 3) := by decide +kernel
theorem d_Model_putLevel_95 : decode prog_11_method_21_code 95 = .ok (.return_, 1) := by decide +kernel
theorem mw_393 : (.methodLink "TileForgeModel" 104 ⟨"TileForgeModel", "coarse", "(I)I"⟩ : Cond) ∈ GW := List.mem_filter.mpr ⟨(List.mem_append_right _ (List.mem_append_right _ (List.mem_append_right _ (List.mem_append_right _ (List.mem_of_getElem? (i := 124) rfl))))), rfl⟩
theorem mw_394 : (.instanceMethod ⟨"TileForgeModel", "coarse", "(I)I"⟩ : Cond) ∈ GW := List.mem_filter.mpr ⟨(List.mem_append_right _ (List.mem_append_right _ (List.mem_append_right _ (List.mem_append_right _ (List.mem_of_getElem? (i := 126) rfl))))), rfl⟩
theorem mw_395 : (.selects "TileForgeModel" ⟨"TileForgeModel", "coarse", "(I)I"⟩ ⟨"TileForgeModel", "coarse", "(I)I"⟩ : Cond) ∈ GW := List.mem_filter.mpr ⟨(List.mem_append_left _ (List.mem_of_getElem? (i := 15) rfl)), rfl⟩
theorem mw_396 : (.methodLink "TileForgeModel" 107 ⟨"TileForgeModel", "put", "(II)V"⟩ : Cond) ∈ GW := List.mem_filter.mpr ⟨(List.mem_append_right _ (List.mem_append_right _ (List.mem_append_right _ (List.mem_append_right _ (List.mem_of_getElem? (i := 84) rfl))))), rfl⟩
theorem mw_397 : (.instanceMethod ⟨"TileForgeModel", "put", "(II)V"⟩ : Cond) ∈ GW := List.mem_filter.mpr ⟨(List.mem_append_right _ (List.mem_append_right _ (List.mem_append_right _ (List.mem_append_right _ (List.mem_of_getElem? (i := 86) rfl))))), rfl⟩
theorem mw_398 : (.selects "TileForgeModel" ⟨"TileForgeModel", "put", "(II)V"⟩ ⟨"TileForgeModel", "put", "(II)V"⟩ : Cond) ∈ GW := List.mem_filter.mpr ⟨(List.mem_append_left _ (List.mem_of_getElem? (i := 5) rfl)), rfl⟩
theorem mw_399 : (.methodLink "TileForgeModel" 110 ⟨"TileForgeModel", "learn", "(II)V"⟩ : Cond) ∈ GW := List.mem_filter.mpr ⟨(List.mem_append_right _ (List.mem_append_right _ (List.mem_append_right _ (List.mem_append_right _ (List.mem_of_getElem? (i := 128) rfl))))), rfl⟩
theorem mw_400 : (.instanceMethod ⟨"TileForgeModel", "learn", "(II)V"⟩ : Cond) ∈ GW := List.mem_filter.mpr ⟨(List.mem_append_right _ (List.mem_append_right _ (List.mem_append_right _ (List.mem_append_right _ (List.mem_of_getElem? (i := 130) rfl))))), rfl⟩
theorem mw_401 : (.selects "TileForgeModel" ⟨"TileForgeModel", "learn", "(II)V"⟩ ⟨"TileForgeModel", "learn", "(II)V"⟩ : Cond) ∈ GW := List.mem_filter.mpr ⟨(List.mem_append_left _ (List.mem_of_getElem? (i := 16) rfl)), rfl⟩
def q_mo_putLevel (cI : ClassId) (g0 : Nat) (g1 : Nat) (g2 : Nat) (g3 : Nat) (g4 : Nat) (g5 : Nat) (g6 : Nat) (g7 : Nat) (g8 : Nat) (g9 : Nat) (g10 : Nat) (g11 : Nat) (g12 : Nat) (g13 : Nat) (g14 : Nat) (g15 : Nat) (isz : Int32) (ith : Int32) (ico : Int32) (icl : Int32) (irw : Int32) (nb : Nat) (ien : Int32) (itr : Int32) (ibl : Int32) (ile : Int32) (igr : Int32) (ibk : Int32) (ist : Int32) (ibr : Int32) (lad : Nat → Int32) (su : Nat → Int32) (mn : Nat → Int32) (ct : Nat) (lev : Int32) (un : Nat) : va_W → Prop := fun ww => ww = [(g0, .inr (9, [.ref g1, .ref g2, .ref g3, .ref g4, .ref g5, .ref g6, .ref g7, .ref g8, .ref g9, .ref g10, .ref g11, .ref g12, .ref g13, .ref g14, .ref g15, .int isz, .int ith, .int ico, .int icl, .int irw, .int (nI (puU un (lowK (mn ct) (su ct)) lad nb).2), .int ien, .int itr, .int ibl, .int ile, .int igr, .int ibk, .int ist, .int ibr])), (g5, .inl (cI, 600, .inl ((puU un (lowK (mn ct) (su ct)) lad nb).1))), (g13, .inl (cI, 2, .inl (upd su ct (lrS (su ct) (mn ct) (nI un))))), (g14, .inl (cI, 2, .inl (upd mn ct (lrN (mn ct)))))]
set_option maxHeartbeats 4000000 in
set_option maxRecDepth 100000 in
theorem c_mo_putLevel (l : Launch) {D : va_G} {tys : List (ClassId × FieldType)} {cI : ClassId} (hcI : tys[0]? = some (cI, .int)) (g0 : Nat) (g1 : Nat) (g2 : Nat) (g3 : Nat) (g4 : Nat) (g5 : Nat) (g6 : Nat) (g7 : Nat) (g8 : Nat) (g9 : Nat) (g10 : Nat) (g11 : Nat) (g12 : Nat) (g13 : Nat) (g14 : Nat) (g15 : Nat) (isz : Int32) (ith : Int32) (ico : Int32) (icl : Int32) (irw : Int32) (nb : Nat) (ien : Int32) (itr : Int32) (ibl : Int32) (ile : Int32) (igr : Int32) (ibk : Int32) (ist : Int32) (ibr : Int32) (lad : Nat → Int32) (su : Nat → Int32) (mn : Nat → Int32) (ct : Nat) (lev : Int32) (un : Nat) (hc2 : ct < 2) (hu : (if lev ≤ 0 then (-2) * lev else 2 * lev - 1) = nI un) (hun : un ≤ 8190) (hnb : nb + 26 ≤ 4800) : CsV l D vwCl tys y_Model_putLevel ws_Model_putLevel ({ frames := 1, cells := 0, slots := 0, locals := 23 } : Room) [.ref g0, .int lev, .int (nI ct)] [(g0, .inr (9, [.ref g1, .ref g2, .ref g3, .ref g4, .ref g5, .ref g6, .ref g7, .ref g8, .ref g9, .ref g10, .ref g11, .ref g12, .ref g13, .ref g14, .ref g15, .int isz, .int ith, .int ico, .int icl, .int irw, .int (nI nb), .int ien, .int itr, .int ibl, .int ile, .int igr, .int ibk, .int ist, .int ibr])), (g5, .inl (cI, 600, .inl lad)), (g13, .inl (cI, 2, .inl su)), (g14, .inl (cI, 2, .inl mn))] (q_mo_putLevel cI g0 g1 g2 g3 g4 g5 g6 g7 g8 g9 g10 g11 g12 g13 g14 g15 isz ith ico icl irw nb ien itr ibl ile igr ibk ist ibr lad su mn ct lev un) 0 0 := by
  intro sz
  refine Met.ofW (cc := prog_11_method_21_code) (maxL := 7) (ret := none) (by decide) rfl ?_
  intro p e s m args below meth c s₁ B hml hv
  obtain ⟨rfl, hsz, hP, hK, hD0, hN⟩ := hv
  have hx := B.exec
  have hb := B.bytes
  have hr := B.returns
  have hts := atoms_spec (ws := ws_Model_putLevel) B.pre
  have hown : s.vm.findClass "TileForgeModel" = some m.cls := findClass_of_methodNamed B.named
  have hlocks := B.notSynchronized
  subst hsz
  have hD := hD0.self (sz := s.heap.size)
  generalize hAe : va_A [(g0, .inr (9, [.ref g1, .ref g2, .ref g3, .ref g4, .ref g5, .ref g6, .ref g7, .ref g8, .ref g9, .ref g10, .ref g11, .ref g12, .ref g13, .ref g14, .ref g15, .int isz, .int ith, .int ico, .int icl, .int irw, .int (nI nb), .int ien, .int itr, .int ibl, .int ile, .int igr, .int ibk, .int ist, .int ibr])), (g5, .inl (cI, 600, .inl lad)), (g13, .inl (cI, 2, .inl su)), (g14, .inl (cI, 2, .inl mn))] s.heap.size = A at hD ⊢
  have hA : ∀ q : Nat, s.heap.size ≤ q → A q := fun q h => by rw [← hAe]; exact Or.inr h
  have hS : va_S A s.heap s.heap [] := va_S.rf
  have hP : va_P D vwCl [(g0, .inr (9, [.ref g1, .ref g2, .ref g3, .ref g4, .ref g5, .ref g6, .ref g7, .ref g8, .ref g9, .ref g10, .ref g11, .ref g12, .ref g13, .ref g14, .ref g15, .int isz, .int ith, .int ico, .int icl, .int irw, .int (nI nb), .int ien, .int itr, .int ibl, .int ile, .int igr, .int ibk, .int ist, .int ibr])), (g5, .inl (cI, 600, .inl lad)), (g13, .inl (cI, 2, .inl su)), (g14, .inl (cI, 2, .inl mn))] s.heap := hP
  have hl := lv_entry ([.ref g0, .int lev, .int (nI ct)]) (n := 7) (Nat.le_of_ble_eq_true rfl)
  rw [lg_entry_eq]
  generalize (lg_sl ([.ref g0, .int lev, .int (nI ct)]) ++ List.replicate (7 - (lg_sl ([.ref g0, .int lev, .int (nI ct)])).length) Slot.unset).toArray = ls at hl ⊢
  have hl : lv_has ls 7 [(0, .ref g0), (1, .int lev), (2, .int (nI ct))] := hl
  have hK1 := lowK_le (mn ct) (su ct)
  have hQ1 := Nat.div_le_self un (2 ^ (lowK (mn ct) (su ct)))
  refine lv_iload_n hx hb d_Model_putLevel_0 rfl (lv_at hl 1 rfl) ?_
  refine lv_if_le (tgt := 12) hx hb d_Model_putLevel_1 (by decide) (fun c_1 => ?_) (fun c_1 => ?_)
  · refine lv_bipush (v := (-2)) hx hb d_Model_putLevel_12 (by decide) ?_
    refine lv_iload_n hx hb d_Model_putLevel_14 rfl (lv_at hl 1 rfl) ?_
    refine lv_imul hx hb d_Model_putLevel_15 ?_
    refine cs_top (y := nI un) (by rw [← hu]; simp [c_1]) ?_
    refine lv_istore_n (lv' := [(3, .int (nI un)), (0, .ref g0), (1, .int lev), (2, .int (nI ct))]) hx hb d_Model_putLevel_16 rfl hl (by decide) rfl (fun ls hl => ?_)
    refine lv_aload_n hx hb d_Model_putLevel_17 rfl (lv_at hl 1 rfl) ?_
    refine lv_iload_n hx hb d_Model_putLevel_18 rfl (lv_at hl 3 rfl) ?_
    refine cs_Vi (As := [.int (nI ct)]) (rest := []) (wr := [(g5, .inl (cI, 600, .inl lad))]) ⟨hx, hb, hml, hown, hts⟩ (c_mo_coarse l hcI g0 g1 g2 g3 g4 g5 g6 g7 g8 g9 g10 g11 g12 g13 g14 g15 isz ith ico icl irw (nI nb) ien itr ibl ile igr ibk ist ibr su mn ct (hc2)) (cwV 1 hts (cs_gV mw_393 mw_394 mw_395 mw_349 mw_387) rfl rfl rfl ⟨rfl, hd_Model_coarse⟩ ⟨Nat.le_of_ble_eq_true rfl, Nat.le_of_ble_eq_true rfl⟩) hN hK hP hD hS hA [0, 2, 3] [1] rfl rfl rfl rfl (by decide) (ci := 9) rfl rfl rfl rfl rfl hl.1 (Nat.le_of_ble_eq_true rfl) d_Model_putLevel_19 ⟨Nat.le_of_ble_eq_true rfl, Nat.le_of_ble_eq_true rfl⟩ (fun r1 w1 H locs hw hP hD hS => ?_)
    obtain ⟨rfl, rfl⟩ := hw
    have hP : va_P D vwCl [(g5, .inl (cI, 600, .inl lad)), (g0, .inr (9, [.ref g1, .ref g2, .ref g3, .ref g4, .ref g5, .ref g6, .ref g7, .ref g8, .ref g9, .ref g10, .ref g11, .ref g12, .ref g13, .ref g14, .ref g15, .int isz, .int ith, .int ico, .int icl, .int irw, .int (nI nb), .int ien, .int itr, .int ibl, .int ile, .int igr, .int ibk, .int ist, .int ibr])), (g13, .inl (cI, 2, .inl su)), (g14, .inl (cI, 2, .inl mn))] H := hP
    have hD : va_D A [(g5, .inl (cI, 600, .inl lad)), (g0, .inr (9, [.ref g1, .ref g2, .ref g3, .ref g4, .ref g5, .ref g6, .ref g7, .ref g8, .ref g9, .ref g10, .ref g11, .ref g12, .ref g13, .ref g14, .ref g15, .int isz, .int ith, .int ico, .int icl, .int irw, .int (nI nb), .int ien, .int itr, .int ibl, .int ile, .int igr, .int ibk, .int ist, .int ibr])), (g13, .inl (cI, 2, .inl su)), (g14, .inl (cI, 2, .inl mn))] := hD
    refine lv_istore (lv' := [(4, .int (nI (lowK (mn ct) (su ct)))), (3, .int (nI un)), (0, .ref g0), (1, .int lev), (2, .int (nI ct))]) hx hb d_Model_putLevel_22 hl (by decide) rfl (fun ls hl => ?_)
    refine lv_iload_n hx hb d_Model_putLevel_24 rfl (lv_at hl 1 rfl) ?_
    refine lv_iload hx hb d_Model_putLevel_25 (lv_at hl 0 rfl) ?_
    refine lv_ishr hx hb d_Model_putLevel_27 ?_
    refine cs_top (y := nI (un / 2 ^ (lowK (mn ct) (su ct)))) (cs_shr hK1 (by omega)) ?_
    refine lv_istore (lv' := [(5, .int (nI (un / 2 ^ (lowK (mn ct) (su ct))))), (4, .int (nI (lowK (mn ct) (su ct)))), (3, .int (nI un)), (0, .ref g0), (1, .int lev), (2, .int (nI ct))]) hx hb d_Model_putLevel_28 hl (by decide) rfl (fun ls hl => ?_)
    refine lv_iconst (v := 0) hx hb d_Model_putLevel_30 (by decide) ?_
    refine lv_istore (lv' := [(6, .int 0), (5, .int (nI (un / 2 ^ (lowK (mn ct) (su ct))))), (4, .int (nI (lowK (mn ct) (su ct)))), (3, .int (nI un)), (0, .ref g0), (1, .int lev), (2, .int (nI ct))]) hx hb d_Model_putLevel_31 hl (by decide) rfl (fun ls hl => ?_)
    have lp33 : ∀ (n : Nat) (i : Nat), (13 ≤ i + n) → (i ≤ un / 2 ^ (lowK (mn ct) (su ct))) → (i ≤ 12) → ∀ (H : Heap) (locs : List Loc) (ls : Array Slot), va_P D vwCl [(g0, .inr (9, [.ref g1, .ref g2, .ref g3, .ref g4, .ref g5, .ref g6, .ref g7, .ref g8, .ref g9, .ref g10, .ref g11, .ref g12, .ref g13, .ref g14, .ref g15, .int isz, .int ith, .int ico, .int icl, .int irw, .int (nI (nb + i)), .int ien, .int itr, .int ibl, .int ile, .int igr, .int ibk, .int ist, .int ibr])), (g5, .inl (cI, 600, .inl (pwO i lad nb))), (g13, .inl (cI, 2, .inl su)), (g14, .inl (cI, 2, .inl mn))] H → va_D A [(g0, .inr (9, [.ref g1, .ref g2, .ref g3, .ref g4, .ref g5, .ref g6, .ref g7, .ref g8, .ref g9, .ref g10, .ref g11, .ref g12, .ref g13, .ref g14, .ref g15, .int isz, .int ith, .int ico, .int icl, .int irw, .int (nI (nb + i)), .int ien, .int itr, .int ibl, .int ile, .int igr, .int ibk, .int ist, .int ibr])), (g5, .inl (cI, 600, .inl (pwO i lad nb))), (g13, .inl (cI, 2, .inl su)), (g14, .inl (cI, 2, .inl mn))] → va_S A s.heap H locs → lv_has ls 7 [(0, .ref g0), (1, .int lev), (2, .int (nI ct)), (3, .int (nI un)), (4, .int (nI (lowK (mn ct) (su ct)))), (5, .int (nI (un / 2 ^ (lowK (mn ct) (su ct))))), (6, .int (nI i))] → W p l e ({ frames := 1, cells := 0, slots := 0, locals := 23 } : Room) s m ([.ref g0, .int lev, .int (nI ct)] : List Value).toArray below meth c H locs 0 0 (MQ below (va_Qv (q_mo_putLevel cI g0 g1 g2 g3 g4 g5 g6 g7 g8 g9 g10 g11 g12 g13 g14 g15 isz ith ico icl irw nb ien itr ibl ile igr ibk ist ibr lad su mn ct lev un) (cs_B D vwCl tys A) A) ([.ref g0, .int lev, .int (nI ct)] : List Value).toArray s 0 0 A) (F0 m 33 ls []) := by
      intro n
      induction n with
      | zero =>
        intro i hf hi hi12
        exact absurd hf (by omega)
      | succ n ih33 =>
        intro i hf hi hi12 H locs ls hP hD hS hl
        refine lv_iload hx hb d_Model_putLevel_33 (lv_at hl 6 rfl) ?_
        refine lv_iload hx hb d_Model_putLevel_35 (lv_at hl 5 rfl) ?_
        refine lv_icmp_ge (tgt := 59) hx hb d_Model_putLevel_37 (by decide) (fun c_37 => ?_) (fun c_37 => ?_)
        · have hi2 : un / 2 ^ (lowK (mn ct) (su ct)) ≤ i := (nI_leI (a := un / 2 ^ (lowK (mn ct) (su ct))) (b := i) (by omega) (by omega)).mp c_37
          refine lv_iload hx hb d_Model_putLevel_59 (lv_at hl 5 rfl) ?_
          refine lv_bipush (v := 12) hx hb d_Model_putLevel_61 (by decide) ?_
          refine lv_icmp_lt (tgt := 76) hx hb d_Model_putLevel_63 (by decide) (fun c_63 => ?_) (fun c_63 => ?_)
          · have h12 : un / 2 ^ (lowK (mn ct) (su ct)) < 12 := (nI_ltI (a := un / 2 ^ (lowK (mn ct) (su ct))) (b := 12) (by omega) (by decide)).mp c_63
            have hi5 : i = un / 2 ^ (lowK (mn ct) (su ct)) := by omega
            refine lv_aload_n hx hb d_Model_putLevel_76 rfl (lv_at hl 0 rfl) ?_
            refine lv_iconst (v := 0) hx hb d_Model_putLevel_77 (by decide) ?_
            refine lv_iconst (v := 1) hx hb d_Model_putLevel_78 (by decide) ?_
            refine cs_Vv (As := [.int 0, .int 1]) (rest := []) (wr := [(g13, .inl (cI, 2, .inl su)), (g14, .inl (cI, 2, .inl mn))]) ⟨hx, hb, hml, hown, hts⟩ (c_mo_put l hcI g0 g1 g2 g3 g4 g5 g6 g7 g8 g9 g10 g11 g12 g13 g14 g15 isz ith ico icl irw (nb + i) ien itr ibl ile igr ibk ist ibr (pwO i lad nb) 0 1 (by omega)) (cwV 2 hts (cs_gV mw_396 mw_397 mw_398 mw_349 mw_389) rfl rfl rfl ⟨rfl, hd_Model_put⟩ ⟨Nat.le_of_ble_eq_true rfl, Nat.le_of_ble_eq_true rfl⟩) hN hK hP hD hS hA [0, 1] [2, 3] rfl rfl rfl rfl (by decide) (ci := 9) rfl rfl rfl rfl rfl hl.1 (Nat.le_of_ble_eq_true rfl) d_Model_putLevel_79 ⟨Nat.le_of_ble_eq_true rfl, Nat.le_of_ble_eq_true rfl⟩ (fun w1 H locs hw hP hD hS => ?_)
            obtain rfl := hw
            have hP : va_P D vwCl [(g13, .inl (cI, 2, .inl su)), (g14, .inl (cI, 2, .inl mn)), (g0, .inr (9, [.ref g1, .ref g2, .ref g3, .ref g4, .ref g5, .ref g6, .ref g7, .ref g8, .ref g9, .ref g10, .ref g11, .ref g12, .ref g13, .ref g14, .ref g15, .int isz, .int ith, .int ico, .int icl, .int irw, .int (nI ((nb + i) + 1)), .int ien, .int itr, .int ibl, .int ile, .int igr, .int ibk, .int ist, .int ibr])), (g5, .inl (cI, 600, .inl (pwF 0 1 (pwO i lad nb) (nb + i))))] H := hP
            have hD : va_D A [(g13, .inl (cI, 2, .inl su)), (g14, .inl (cI, 2, .inl mn)), (g0, .inr (9, [.ref g1, .ref g2, .ref g3, .ref g4, .ref g5, .ref g6, .ref g7, .ref g8, .ref g9, .ref g10, .ref g11, .ref g12, .ref g13, .ref g14, .ref g15, .int isz, .int ith, .int ico, .int icl, .int irw, .int (nI ((nb + i) + 1)), .int ien, .int itr, .int ibl, .int ile, .int igr, .int ibk, .int ist, .int ibr])), (g5, .inl (cI, 600, .inl (pwF 0 1 (pwO i lad nb) (nb + i))))] := hD
            refine lv_aload_n hx hb d_Model_putLevel_82 rfl (lv_at hl 0 rfl) ?_
            refine lv_iload_n hx hb d_Model_putLevel_83 rfl (lv_at hl 3 rfl) ?_
            refine lv_iload hx hb d_Model_putLevel_84 (lv_at hl 4 rfl) ?_
            refine cs_Vv (As := [.int (nI un), .int (nI (lowK (mn ct) (su ct)))]) (rest := []) (wr := [(g13, .inl (cI, 2, .inl su)), (g14, .inl (cI, 2, .inl mn))]) ⟨hx, hb, hml, hown, hts⟩ (c_mo_put l hcI g0 g1 g2 g3 g4 g5 g6 g7 g8 g9 g10 g11 g12 g13 g14 g15 isz ith ico icl irw ((nb + i) + 1) ien itr ibl ile igr ibk ist ibr (pwF 0 1 (pwO i lad nb) (nb + i)) (nI un) (lowK (mn ct) (su ct)) (by omega)) (cwV 2 hts (cs_gV mw_396 mw_397 mw_398 mw_349 mw_389) rfl rfl rfl ⟨rfl, hd_Model_put⟩ ⟨Nat.le_of_ble_eq_true rfl, Nat.le_of_ble_eq_true rfl⟩) hN hK hP hD hS hA [2, 3] [0, 1] rfl rfl rfl rfl (by decide) (ci := 9) rfl rfl rfl rfl rfl hl.1 (Nat.le_of_ble_eq_true rfl) d_Model_putLevel_86 ⟨Nat.le_of_ble_eq_true rfl, Nat.le_of_ble_eq_true rfl⟩ (fun w1 H locs hw hP hD hS => ?_)
            obtain rfl := hw
            have hP : va_P D vwCl [(g13, .inl (cI, 2, .inl su)), (g14, .inl (cI, 2, .inl mn)), (g0, .inr (9, [.ref g1, .ref g2, .ref g3, .ref g4, .ref g5, .ref g6, .ref g7, .ref g8, .ref g9, .ref g10, .ref g11, .ref g12, .ref g13, .ref g14, .ref g15, .int isz, .int ith, .int ico, .int icl, .int irw, .int (nI (((nb + i) + 1) + (lowK (mn ct) (su ct)))), .int ien, .int itr, .int ibl, .int ile, .int igr, .int ibk, .int ist, .int ibr])), (g5, .inl (cI, 600, .inl (pwF (nI un) (lowK (mn ct) (su ct)) (pwF 0 1 (pwO i lad nb) (nb + i)) ((nb + i) + 1))))] H := hP
            have hD : va_D A [(g13, .inl (cI, 2, .inl su)), (g14, .inl (cI, 2, .inl mn)), (g0, .inr (9, [.ref g1, .ref g2, .ref g3, .ref g4, .ref g5, .ref g6, .ref g7, .ref g8, .ref g9, .ref g10, .ref g11, .ref g12, .ref g13, .ref g14, .ref g15, .int isz, .int ith, .int ico, .int icl, .int irw, .int (nI (((nb + i) + 1) + (lowK (mn ct) (su ct)))), .int ien, .int itr, .int ibl, .int ile, .int igr, .int ibk, .int ist, .int ibr])), (g5, .inl (cI, 600, .inl (pwF (nI un) (lowK (mn ct) (su ct)) (pwF 0 1 (pwO i lad nb) (nb + i)) ((nb + i) + 1))))] := hD
            refine lv_aload_n hx hb d_Model_putLevel_89 rfl (lv_at hl 0 rfl) ?_
            refine lv_iload_n hx hb d_Model_putLevel_90 rfl (lv_at hl 2 rfl) ?_
            refine lv_iload_n hx hb d_Model_putLevel_91 rfl (lv_at hl 3 rfl) ?_
            refine cs_Vv (As := [.int (nI ct), .int (nI un)]) (rest := []) (wr := [(g5, .inl (cI, 600, .inl (pwF (nI un) (lowK (mn ct) (su ct)) (pwF 0 1 (pwO i lad nb) (nb + i)) ((nb + i) + 1))))]) ⟨hx, hb, hml, hown, hts⟩ (c_mo_learn l hcI g0 g1 g2 g3 g4 g5 g6 g7 g8 g9 g10 g11 g12 g13 g14 g15 isz ith ico icl irw (nI (((nb + i) + 1) + (lowK (mn ct) (su ct)))) ien itr ibl ile igr ibk ist ibr su mn ct (nI un) (hc2)) (cwV 2 hts (cs_gV mw_399 mw_400 mw_401 mw_349 mw_388) rfl rfl rfl ⟨rfl, hd_Model_learn⟩ ⟨Nat.le_of_ble_eq_true rfl, Nat.le_of_ble_eq_true rfl⟩) hN hK hP hD hS hA [2, 0, 1] [3] rfl rfl rfl rfl (by decide) (ci := 9) rfl rfl rfl rfl rfl hl.1 (Nat.le_of_ble_eq_true rfl) d_Model_putLevel_92 ⟨Nat.le_of_ble_eq_true rfl, Nat.le_of_ble_eq_true rfl⟩ (fun w1 H locs hw hP hD hS => ?_)
            obtain rfl := hw
            have hP : va_P D vwCl [(g5, .inl (cI, 600, .inl (pwF (nI un) (lowK (mn ct) (su ct)) (pwF 0 1 (pwO i lad nb) (nb + i)) ((nb + i) + 1)))), (g0, .inr (9, [.ref g1, .ref g2, .ref g3, .ref g4, .ref g5, .ref g6, .ref g7, .ref g8, .ref g9, .ref g10, .ref g11, .ref g12, .ref g13, .ref g14, .ref g15, .int isz, .int ith, .int ico, .int icl, .int irw, .int (nI (((nb + i) + 1) + (lowK (mn ct) (su ct)))), .int ien, .int itr, .int ibl, .int ile, .int igr, .int ibk, .int ist, .int ibr])), (g13, .inl (cI, 2, .inl (upd su ct (lrS (su ct) (mn ct) (nI un))))), (g14, .inl (cI, 2, .inl (upd mn ct (lrN (mn ct)))))] H := hP
            have hD : va_D A [(g5, .inl (cI, 600, .inl (pwF (nI un) (lowK (mn ct) (su ct)) (pwF 0 1 (pwO i lad nb) (nb + i)) ((nb + i) + 1)))), (g0, .inr (9, [.ref g1, .ref g2, .ref g3, .ref g4, .ref g5, .ref g6, .ref g7, .ref g8, .ref g9, .ref g10, .ref g11, .ref g12, .ref g13, .ref g14, .ref g15, .int isz, .int ith, .int ico, .int icl, .int irw, .int (nI (((nb + i) + 1) + (lowK (mn ct) (su ct)))), .int ien, .int itr, .int ibl, .int ile, .int igr, .int ibk, .int ist, .int ibr])), (g13, .inl (cI, 2, .inl (upd su ct (lrS (su ct) (mn ct) (nI un))))), (g14, .inl (cI, 2, .inl (upd mn ct (lrN (mn ct)))))] := hD
            have hP := hP.sub (ws' := [(g0, .inr (9, [.ref g1, .ref g2, .ref g3, .ref g4, .ref g5, .ref g6, .ref g7, .ref g8, .ref g9, .ref g10, .ref g11, .ref g12, .ref g13, .ref g14, .ref g15, .int isz, .int ith, .int ico, .int icl, .int irw, .int (nI (((nb + i) + 1) + (lowK (mn ct) (su ct)))), .int ien, .int itr, .int ibl, .int ile, .int igr, .int ibk, .int ist, .int ibr])), (g5, .inl (cI, 600, .inl (pwF (nI un) (lowK (mn ct) (su ct)) (pwF 0 1 (pwO i lad nb) (nb + i)) ((nb + i) + 1)))), (g13, .inl (cI, 2, .inl (upd su ct (lrS (su ct) (mn ct) (nI un))))), (g14, .inl (cI, 2, .inl (upd mn ct (lrN (mn ct)))))]) [1, 0, 2, 3] rfl
            have hD := hD.sub (ws' := [(g0, .inr (9, [.ref g1, .ref g2, .ref g3, .ref g4, .ref g5, .ref g6, .ref g7, .ref g8, .ref g9, .ref g10, .ref g11, .ref g12, .ref g13, .ref g14, .ref g15, .int isz, .int ith, .int ico, .int icl, .int irw, .int (nI (((nb + i) + 1) + (lowK (mn ct) (su ct)))), .int ien, .int itr, .int ibl, .int ile, .int igr, .int ibk, .int ist, .int ibr])), (g5, .inl (cI, 600, .inl (pwF (nI un) (lowK (mn ct) (su ct)) (pwF 0 1 (pwO i lad nb) (nb + i)) ((nb + i) + 1)))), (g13, .inl (cI, 2, .inl (upd su ct (lrS (su ct) (mn ct) (nI un))))), (g14, .inl (cI, 2, .inl (upd mn ct (lrN (mn ct)))))]) [1, 0, 2, 3] (by decide) rfl
            exact W.vret hx hb hr (fun t ht hW => ⟨⟨[(g0, .inr (9, [.ref g1, .ref g2, .ref g3, .ref g4, .ref g5, .ref g6, .ref g7, .ref g8, .ref g9, .ref g10, .ref g11, .ref g12, .ref g13, .ref g14, .ref g15, .int isz, .int ith, .int ico, .int icl, .int irw, .int (nI (((nb + i) + 1) + (lowK (mn ct) (su ct)))), .int ien, .int itr, .int ibl, .int ile, .int igr, .int ibk, .int ist, .int ibr])), (g5, .inl (cI, 600, .inl (pwF (nI un) (lowK (mn ct) (su ct)) (pwF 0 1 (pwO i lad nb) (nb + i)) ((nb + i) + 1)))), (g13, .inl (cI, 2, .inl (upd su ct (lrS (su ct) (mn ct) (nI un))))), (g14, .inl (cI, 2, .inl (upd mn ct (lrN (mn ct)))))], rfl, (show _ = _ from (by rw [puU, if_pos h12, hi5])), by rw [ht]; exact hP, va_K.moved hW.alike hK, hD⟩, hS.F ht⟩) hS.2.2 d_Model_putLevel_95
          · have h12 : ¬ un / 2 ^ (lowK (mn ct) (su ct)) < 12 := fun h => c_63 (nI_lt (a := un / 2 ^ (lowK (mn ct) (su ct))) (b := 12) h (by decide))
            have hi5 : i = 12 := by omega
            refine lv_aload_n hx hb d_Model_putLevel_66 rfl (lv_at hl 0 rfl) ?_
            refine lv_iload_n hx hb d_Model_putLevel_67 rfl (lv_at hl 3 rfl) ?_
            refine lv_bipush (v := 14) hx hb d_Model_putLevel_68 (by decide) ?_
            refine cs_Vv (As := [.int (nI un), .int 14]) (rest := []) (wr := [(g13, .inl (cI, 2, .inl su)), (g14, .inl (cI, 2, .inl mn))]) ⟨hx, hb, hml, hown, hts⟩ (c_mo_put l hcI g0 g1 g2 g3 g4 g5 g6 g7 g8 g9 g10 g11 g12 g13 g14 g15 isz ith ico icl irw (nb + i) ien itr ibl ile igr ibk ist ibr (pwO i lad nb) (nI un) 14 (by omega)) (cwV 2 hts (cs_gV mw_396 mw_397 mw_398 mw_349 mw_389) rfl rfl rfl ⟨rfl, hd_Model_put⟩ ⟨Nat.le_of_ble_eq_true rfl, Nat.le_of_ble_eq_true rfl⟩) hN hK hP hD hS hA [0, 1] [2, 3] rfl rfl rfl rfl (by decide) (ci := 9) rfl rfl rfl rfl rfl hl.1 (Nat.le_of_ble_eq_true rfl) d_Model_putLevel_70 ⟨Nat.le_of_ble_eq_true rfl, Nat.le_of_ble_eq_true rfl⟩ (fun w1 H locs hw hP hD hS => ?_)
            obtain rfl := hw
            have hP : va_P D vwCl [(g13, .inl (cI, 2, .inl su)), (g14, .inl (cI, 2, .inl mn)), (g0, .inr (9, [.ref g1, .ref g2, .ref g3, .ref g4, .ref g5, .ref g6, .ref g7, .ref g8, .ref g9, .ref g10, .ref g11, .ref g12, .ref g13, .ref g14, .ref g15, .int isz, .int ith, .int ico, .int icl, .int irw, .int (nI ((nb + i) + 14)), .int ien, .int itr, .int ibl, .int ile, .int igr, .int ibk, .int ist, .int ibr])), (g5, .inl (cI, 600, .inl (pwF (nI un) 14 (pwO i lad nb) (nb + i))))] H := hP
            have hD : va_D A [(g13, .inl (cI, 2, .inl su)), (g14, .inl (cI, 2, .inl mn)), (g0, .inr (9, [.ref g1, .ref g2, .ref g3, .ref g4, .ref g5, .ref g6, .ref g7, .ref g8, .ref g9, .ref g10, .ref g11, .ref g12, .ref g13, .ref g14, .ref g15, .int isz, .int ith, .int ico, .int icl, .int irw, .int (nI ((nb + i) + 14)), .int ien, .int itr, .int ibl, .int ile, .int igr, .int ibk, .int ist, .int ibr])), (g5, .inl (cI, 600, .inl (pwF (nI un) 14 (pwO i lad nb) (nb + i))))] := hD
            refine lv_goto (tgt := 89) hx hb d_Model_putLevel_73 (by decide) ?_
            refine lv_aload_n hx hb d_Model_putLevel_89 rfl (lv_at hl 0 rfl) ?_
            refine lv_iload_n hx hb d_Model_putLevel_90 rfl (lv_at hl 2 rfl) ?_
            refine lv_iload_n hx hb d_Model_putLevel_91 rfl (lv_at hl 3 rfl) ?_
            refine cs_Vv (As := [.int (nI ct), .int (nI un)]) (rest := []) (wr := [(g5, .inl (cI, 600, .inl (pwF (nI un) 14 (pwO i lad nb) (nb + i))))]) ⟨hx, hb, hml, hown, hts⟩ (c_mo_learn l hcI g0 g1 g2 g3 g4 g5 g6 g7 g8 g9 g10 g11 g12 g13 g14 g15 isz ith ico icl irw (nI ((nb + i) + 14)) ien itr ibl ile igr ibk ist ibr su mn ct (nI un) (hc2)) (cwV 2 hts (cs_gV mw_399 mw_400 mw_401 mw_349 mw_388) rfl rfl rfl ⟨rfl, hd_Model_learn⟩ ⟨Nat.le_of_ble_eq_true rfl, Nat.le_of_ble_eq_true rfl⟩) hN hK hP hD hS hA [2, 0, 1] [3] rfl rfl rfl rfl (by decide) (ci := 9) rfl rfl rfl rfl rfl hl.1 (Nat.le_of_ble_eq_true rfl) d_Model_putLevel_92 ⟨Nat.le_of_ble_eq_true rfl, Nat.le_of_ble_eq_true rfl⟩ (fun w1 H locs hw hP hD hS => ?_)
            obtain rfl := hw
            have hP : va_P D vwCl [(g5, .inl (cI, 600, .inl (pwF (nI un) 14 (pwO i lad nb) (nb + i)))), (g0, .inr (9, [.ref g1, .ref g2, .ref g3, .ref g4, .ref g5, .ref g6, .ref g7, .ref g8, .ref g9, .ref g10, .ref g11, .ref g12, .ref g13, .ref g14, .ref g15, .int isz, .int ith, .int ico, .int icl, .int irw, .int (nI ((nb + i) + 14)), .int ien, .int itr, .int ibl, .int ile, .int igr, .int ibk, .int ist, .int ibr])), (g13, .inl (cI, 2, .inl (upd su ct (lrS (su ct) (mn ct) (nI un))))), (g14, .inl (cI, 2, .inl (upd mn ct (lrN (mn ct)))))] H := hP
            have hD : va_D A [(g5, .inl (cI, 600, .inl (pwF (nI un) 14 (pwO i lad nb) (nb + i)))), (g0, .inr (9, [.ref g1, .ref g2, .ref g3, .ref g4, .ref g5, .ref g6, .ref g7, .ref g8, .ref g9, .ref g10, .ref g11, .ref g12, .ref g13, .ref g14, .ref g15, .int isz, .int ith, .int ico, .int icl, .int irw, .int (nI ((nb + i) + 14)), .int ien, .int itr, .int ibl, .int ile, .int igr, .int ibk, .int ist, .int ibr])), (g13, .inl (cI, 2, .inl (upd su ct (lrS (su ct) (mn ct) (nI un))))), (g14, .inl (cI, 2, .inl (upd mn ct (lrN (mn ct)))))] := hD
            have hP := hP.sub (ws' := [(g0, .inr (9, [.ref g1, .ref g2, .ref g3, .ref g4, .ref g5, .ref g6, .ref g7, .ref g8, .ref g9, .ref g10, .ref g11, .ref g12, .ref g13, .ref g14, .ref g15, .int isz, .int ith, .int ico, .int icl, .int irw, .int (nI ((nb + i) + 14)), .int ien, .int itr, .int ibl, .int ile, .int igr, .int ibk, .int ist, .int ibr])), (g5, .inl (cI, 600, .inl (pwF (nI un) 14 (pwO i lad nb) (nb + i)))), (g13, .inl (cI, 2, .inl (upd su ct (lrS (su ct) (mn ct) (nI un))))), (g14, .inl (cI, 2, .inl (upd mn ct (lrN (mn ct)))))]) [1, 0, 2, 3] rfl
            have hD := hD.sub (ws' := [(g0, .inr (9, [.ref g1, .ref g2, .ref g3, .ref g4, .ref g5, .ref g6, .ref g7, .ref g8, .ref g9, .ref g10, .ref g11, .ref g12, .ref g13, .ref g14, .ref g15, .int isz, .int ith, .int ico, .int icl, .int irw, .int (nI ((nb + i) + 14)), .int ien, .int itr, .int ibl, .int ile, .int igr, .int ibk, .int ist, .int ibr])), (g5, .inl (cI, 600, .inl (pwF (nI un) 14 (pwO i lad nb) (nb + i)))), (g13, .inl (cI, 2, .inl (upd su ct (lrS (su ct) (mn ct) (nI un))))), (g14, .inl (cI, 2, .inl (upd mn ct (lrN (mn ct)))))]) [1, 0, 2, 3] (by decide) rfl
            exact W.vret hx hb hr (fun t ht hW => ⟨⟨[(g0, .inr (9, [.ref g1, .ref g2, .ref g3, .ref g4, .ref g5, .ref g6, .ref g7, .ref g8, .ref g9, .ref g10, .ref g11, .ref g12, .ref g13, .ref g14, .ref g15, .int isz, .int ith, .int ico, .int icl, .int irw, .int (nI ((nb + i) + 14)), .int ien, .int itr, .int ibl, .int ile, .int igr, .int ibk, .int ist, .int ibr])), (g5, .inl (cI, 600, .inl (pwF (nI un) 14 (pwO i lad nb) (nb + i)))), (g13, .inl (cI, 2, .inl (upd su ct (lrS (su ct) (mn ct) (nI un))))), (g14, .inl (cI, 2, .inl (upd mn ct (lrN (mn ct)))))], rfl, (show _ = _ from (by rw [puU, if_neg h12, hi5])), by rw [ht]; exact hP, va_K.moved hW.alike hK, hD⟩, hS.F ht⟩) hS.2.2 d_Model_putLevel_95
        · have hi2 : i < un / 2 ^ (lowK (mn ct) (su ct)) := Nat.not_le.mp (fun h => c_37 ((nI_leI (a := un / 2 ^ (lowK (mn ct) (su ct))) (b := i) (by omega) (by omega)).mpr h))
          refine lv_iload hx hb d_Model_putLevel_40 (lv_at hl 6 rfl) ?_
          refine lv_bipush (v := 12) hx hb d_Model_putLevel_42 (by decide) ?_
          refine lv_icmp_ge (tgt := 59) hx hb d_Model_putLevel_44 (by decide) (fun c_44 => ?_) (fun c_44 => ?_)
          · have hi3 := (nI_leI (a := 12) (b := i) (by decide) (by omega)).mp c_44
            refine lv_iload hx hb d_Model_putLevel_59 (lv_at hl 5 rfl) ?_
            refine lv_bipush (v := 12) hx hb d_Model_putLevel_61 (by decide) ?_
            refine lv_icmp_lt (tgt := 76) hx hb d_Model_putLevel_63 (by decide) (fun c_63 => ?_) (fun c_63 => ?_)
            · have h12 : un / 2 ^ (lowK (mn ct) (su ct)) < 12 := (nI_ltI (a := un / 2 ^ (lowK (mn ct) (su ct))) (b := 12) (by omega) (by decide)).mp c_63
              have hi5 : i = un / 2 ^ (lowK (mn ct) (su ct)) := by omega
              refine lv_aload_n hx hb d_Model_putLevel_76 rfl (lv_at hl 0 rfl) ?_
              refine lv_iconst (v := 0) hx hb d_Model_putLevel_77 (by decide) ?_
              refine lv_iconst (v := 1) hx hb d_Model_putLevel_78 (by decide) ?_
              refine cs_Vv (As := [.int 0, .int 1]) (rest := []) (wr := [(g13, .inl (cI, 2, .inl su)), (g14, .inl (cI, 2, .inl mn))]) ⟨hx, hb, hml, hown, hts⟩ (c_mo_put l hcI g0 g1 g2 g3 g4 g5 g6 g7 g8 g9 g10 g11 g12 g13 g14 g15 isz ith ico icl irw (nb + i) ien itr ibl ile igr ibk ist ibr (pwO i lad nb) 0 1 (by omega)) (cwV 2 hts (cs_gV mw_396 mw_397 mw_398 mw_349 mw_389) rfl rfl rfl ⟨rfl, hd_Model_put⟩ ⟨Nat.le_of_ble_eq_true rfl, Nat.le_of_ble_eq_true rfl⟩) hN hK hP hD hS hA [0, 1] [2, 3] rfl rfl rfl rfl (by decide) (ci := 9) rfl rfl rfl rfl rfl hl.1 (Nat.le_of_ble_eq_true rfl) d_Model_putLevel_79 ⟨Nat.le_of_ble_eq_true rfl, Nat.le_of_ble_eq_true rfl⟩ (fun w1 H locs hw hP hD hS => ?_)
              obtain rfl := hw
              have hP : va_P D vwCl [(g13, .inl (cI, 2, .inl su)), (g14, .inl (cI, 2, .inl mn)), (g0, .inr (9, [.ref g1, .ref g2, .ref g3, .ref g4, .ref g5, .ref g6, .ref g7, .ref g8, .ref g9, .ref g10, .ref g11, .ref g12, .ref g13, .ref g14, .ref g15, .int isz, .int ith, .int ico, .int icl, .int irw, .int (nI ((nb + i) + 1)), .int ien, .int itr, .int ibl, .int ile, .int igr, .int ibk, .int ist, .int ibr])), (g5, .inl (cI, 600, .inl (pwF 0 1 (pwO i lad nb) (nb + i))))] H := hP
              have hD : va_D A [(g13, .inl (cI, 2, .inl su)), (g14, .inl (cI, 2, .inl mn)), (g0, .inr (9, [.ref g1, .ref g2, .ref g3, .ref g4, .ref g5, .ref g6, .ref g7, .ref g8, .ref g9, .ref g10, .ref g11, .ref g12, .ref g13, .ref g14, .ref g15, .int isz, .int ith, .int ico, .int icl, .int irw, .int (nI ((nb + i) + 1)), .int ien, .int itr, .int ibl, .int ile, .int igr, .int ibk, .int ist, .int ibr])), (g5, .inl (cI, 600, .inl (pwF 0 1 (pwO i lad nb) (nb + i))))] := hD
              refine lv_aload_n hx hb d_Model_putLevel_82 rfl (lv_at hl 0 rfl) ?_
              refine lv_iload_n hx hb d_Model_putLevel_83 rfl (lv_at hl 3 rfl) ?_
              refine lv_iload hx hb d_Model_putLevel_84 (lv_at hl 4 rfl) ?_
              refine cs_Vv (As := [.int (nI un), .int (nI (lowK (mn ct) (su ct)))]) (rest := []) (wr := [(g13, .inl (cI, 2, .inl su)), (g14, .inl (cI, 2, .inl mn))]) ⟨hx, hb, hml, hown, hts⟩ (c_mo_put l hcI g0 g1 g2 g3 g4 g5 g6 g7 g8 g9 g10 g11 g12 g13 g14 g15 isz ith ico icl irw ((nb + i) + 1) ien itr ibl ile igr ibk ist ibr (pwF 0 1 (pwO i lad nb) (nb + i)) (nI un) (lowK (mn ct) (su ct)) (by omega)) (cwV 2 hts (cs_gV mw_396 mw_397 mw_398 mw_349 mw_389) rfl rfl rfl ⟨rfl, hd_Model_put⟩ ⟨Nat.le_of_ble_eq_true rfl, Nat.le_of_ble_eq_true rfl⟩) hN hK hP hD hS hA [2, 3] [0, 1] rfl rfl rfl rfl (by decide) (ci := 9) rfl rfl rfl rfl rfl hl.1 (Nat.le_of_ble_eq_true rfl) d_Model_putLevel_86 ⟨Nat.le_of_ble_eq_true rfl, Nat.le_of_ble_eq_true rfl⟩ (fun w1 H locs hw hP hD hS => ?_)
              obtain rfl := hw
              have hP : va_P D vwCl [(g13, .inl (cI, 2, .inl su)), (g14, .inl (cI, 2, .inl mn)), (g0, .inr (9, [.ref g1, .ref g2, .ref g3, .ref g4, .ref g5, .ref g6, .ref g7, .ref g8, .ref g9, .ref g10, .ref g11, .ref g12, .ref g13, .ref g14, .ref g15, .int isz, .int ith, .int ico, .int icl, .int irw, .int (nI (((nb + i) + 1) + (lowK (mn ct) (su ct)))), .int ien, .int itr, .int ibl, .int ile, .int igr, .int ibk, .int ist, .int ibr])), (g5, .inl (cI, 600, .inl (pwF (nI un) (lowK (mn ct) (su ct)) (pwF 0 1 (pwO i lad nb) (nb + i)) ((nb + i) + 1))))] H := hP
              have hD : va_D A [(g13, .inl (cI, 2, .inl su)), (g14, .inl (cI, 2, .inl mn)), (g0, .inr (9, [.ref g1, .ref g2, .ref g3, .ref g4, .ref g5, .ref g6, .ref g7, .ref g8, .ref g9, .ref g10, .ref g11, .ref g12, .ref g13, .ref g14, .ref g15, .int isz, .int ith, .int ico, .int icl, .int irw, .int (nI (((nb + i) + 1) + (lowK (mn ct) (su ct)))), .int ien, .int itr, .int ibl, .int ile, .int igr, .int ibk, .int ist, .int ibr])), (g5, .inl (cI, 600, .inl (pwF (nI un) (lowK (mn ct) (su ct)) (pwF 0 1 (pwO i lad nb) (nb + i)) ((nb + i) + 1))))] := hD
              refine lv_aload_n hx hb d_Model_putLevel_89 rfl (lv_at hl 0 rfl) ?_
              refine lv_iload_n hx hb d_Model_putLevel_90 rfl (lv_at hl 2 rfl) ?_
              refine lv_iload_n hx hb d_Model_putLevel_91 rfl (lv_at hl 3 rfl) ?_
              refine cs_Vv (As := [.int (nI ct), .int (nI un)]) (rest := []) (wr := [(g5, .inl (cI, 600, .inl (pwF (nI un) (lowK (mn ct) (su ct)) (pwF 0 1 (pwO i lad nb) (nb + i)) ((nb + i) + 1))))]) ⟨hx, hb, hml, hown, hts⟩ (c_mo_learn l hcI g0 g1 g2 g3 g4 g5 g6 g7 g8 g9 g10 g11 g12 g13 g14 g15 isz ith ico icl irw (nI (((nb + i) + 1) + (lowK (mn ct) (su ct)))) ien itr ibl ile igr ibk ist ibr su mn ct (nI un) (hc2)) (cwV 2 hts (cs_gV mw_399 mw_400 mw_401 mw_349 mw_388) rfl rfl rfl ⟨rfl, hd_Model_learn⟩ ⟨Nat.le_of_ble_eq_true rfl, Nat.le_of_ble_eq_true rfl⟩) hN hK hP hD hS hA [2, 0, 1] [3] rfl rfl rfl rfl (by decide) (ci := 9) rfl rfl rfl rfl rfl hl.1 (Nat.le_of_ble_eq_true rfl) d_Model_putLevel_92 ⟨Nat.le_of_ble_eq_true rfl, Nat.le_of_ble_eq_true rfl⟩ (fun w1 H locs hw hP hD hS => ?_)
              obtain rfl := hw
              have hP : va_P D vwCl [(g5, .inl (cI, 600, .inl (pwF (nI un) (lowK (mn ct) (su ct)) (pwF 0 1 (pwO i lad nb) (nb + i)) ((nb + i) + 1)))), (g0, .inr (9, [.ref g1, .ref g2, .ref g3, .ref g4, .ref g5, .ref g6, .ref g7, .ref g8, .ref g9, .ref g10, .ref g11, .ref g12, .ref g13, .ref g14, .ref g15, .int isz, .int ith, .int ico, .int icl, .int irw, .int (nI (((nb + i) + 1) + (lowK (mn ct) (su ct)))), .int ien, .int itr, .int ibl, .int ile, .int igr, .int ibk, .int ist, .int ibr])), (g13, .inl (cI, 2, .inl (upd su ct (lrS (su ct) (mn ct) (nI un))))), (g14, .inl (cI, 2, .inl (upd mn ct (lrN (mn ct)))))] H := hP
              have hD : va_D A [(g5, .inl (cI, 600, .inl (pwF (nI un) (lowK (mn ct) (su ct)) (pwF 0 1 (pwO i lad nb) (nb + i)) ((nb + i) + 1)))), (g0, .inr (9, [.ref g1, .ref g2, .ref g3, .ref g4, .ref g5, .ref g6, .ref g7, .ref g8, .ref g9, .ref g10, .ref g11, .ref g12, .ref g13, .ref g14, .ref g15, .int isz, .int ith, .int ico, .int icl, .int irw, .int (nI (((nb + i) + 1) + (lowK (mn ct) (su ct)))), .int ien, .int itr, .int ibl, .int ile, .int igr, .int ibk, .int ist, .int ibr])), (g13, .inl (cI, 2, .inl (upd su ct (lrS (su ct) (mn ct) (nI un))))), (g14, .inl (cI, 2, .inl (upd mn ct (lrN (mn ct)))))] := hD
              have hP := hP.sub (ws' := [(g0, .inr (9, [.ref g1, .ref g2, .ref g3, .ref g4, .ref g5, .ref g6, .ref g7, .ref g8, .ref g9, .ref g10, .ref g11, .ref g12, .ref g13, .ref g14, .ref g15, .int isz, .int ith, .int ico, .int icl, .int irw, .int (nI (((nb + i) + 1) + (lowK (mn ct) (su ct)))), .int ien, .int itr, .int ibl, .int ile, .int igr, .int ibk, .int ist, .int ibr])), (g5, .inl (cI, 600, .inl (pwF (nI un) (lowK (mn ct) (su ct)) (pwF 0 1 (pwO i lad nb) (nb + i)) ((nb + i) + 1)))), (g13, .inl (cI, 2, .inl (upd su ct (lrS (su ct) (mn ct) (nI un))))), (g14, .inl (cI, 2, .inl (upd mn ct (lrN (mn ct)))))]) [1, 0, 2, 3] rfl
              have hD := hD.sub (ws' := [(g0, .inr (9, [.ref g1, .ref g2, .ref g3, .ref g4, .ref g5, .ref g6, .ref g7, .ref g8, .ref g9, .ref g10, .ref g11, .ref g12, .ref g13, .ref g14, .ref g15, .int isz, .int ith, .int ico, .int icl, .int irw, .int (nI (((nb + i) + 1) + (lowK (mn ct) (su ct)))), .int ien, .int itr, .int ibl, .int ile, .int igr, .int ibk, .int ist, .int ibr])), (g5, .inl (cI, 600, .inl (pwF (nI un) (lowK (mn ct) (su ct)) (pwF 0 1 (pwO i lad nb) (nb + i)) ((nb + i) + 1)))), (g13, .inl (cI, 2, .inl (upd su ct (lrS (su ct) (mn ct) (nI un))))), (g14, .inl (cI, 2, .inl (upd mn ct (lrN (mn ct)))))]) [1, 0, 2, 3] (by decide) rfl
              exact W.vret hx hb hr (fun t ht hW => ⟨⟨[(g0, .inr (9, [.ref g1, .ref g2, .ref g3, .ref g4, .ref g5, .ref g6, .ref g7, .ref g8, .ref g9, .ref g10, .ref g11, .ref g12, .ref g13, .ref g14, .ref g15, .int isz, .int ith, .int ico, .int icl, .int irw, .int (nI (((nb + i) + 1) + (lowK (mn ct) (su ct)))), .int ien, .int itr, .int ibl, .int ile, .int igr, .int ibk, .int ist, .int ibr])), (g5, .inl (cI, 600, .inl (pwF (nI un) (lowK (mn ct) (su ct)) (pwF 0 1 (pwO i lad nb) (nb + i)) ((nb + i) + 1)))), (g13, .inl (cI, 2, .inl (upd su ct (lrS (su ct) (mn ct) (nI un))))), (g14, .inl (cI, 2, .inl (upd mn ct (lrN (mn ct)))))], rfl, (show _ = _ from (by rw [puU, if_pos h12, hi5])), by rw [ht]; exact hP, va_K.moved hW.alike hK, hD⟩, hS.F ht⟩) hS.2.2 d_Model_putLevel_95
            · have h12 : ¬ un / 2 ^ (lowK (mn ct) (su ct)) < 12 := fun h => c_63 (nI_lt (a := un / 2 ^ (lowK (mn ct) (su ct))) (b := 12) h (by decide))
              have hi5 : i = 12 := by omega
              refine lv_aload_n hx hb d_Model_putLevel_66 rfl (lv_at hl 0 rfl) ?_
              refine lv_iload_n hx hb d_Model_putLevel_67 rfl (lv_at hl 3 rfl) ?_
              refine lv_bipush (v := 14) hx hb d_Model_putLevel_68 (by decide) ?_
              refine cs_Vv (As := [.int (nI un), .int 14]) (rest := []) (wr := [(g13, .inl (cI, 2, .inl su)), (g14, .inl (cI, 2, .inl mn))]) ⟨hx, hb, hml, hown, hts⟩ (c_mo_put l hcI g0 g1 g2 g3 g4 g5 g6 g7 g8 g9 g10 g11 g12 g13 g14 g15 isz ith ico icl irw (nb + i) ien itr ibl ile igr ibk ist ibr (pwO i lad nb) (nI un) 14 (by omega)) (cwV 2 hts (cs_gV mw_396 mw_397 mw_398 mw_349 mw_389) rfl rfl rfl ⟨rfl, hd_Model_put⟩ ⟨Nat.le_of_ble_eq_true rfl, Nat.le_of_ble_eq_true rfl⟩) hN hK hP hD hS hA [0, 1] [2, 3] rfl rfl rfl rfl (by decide) (ci := 9) rfl rfl rfl rfl rfl hl.1 (Nat.le_of_ble_eq_true rfl) d_Model_putLevel_70 ⟨Nat.le_of_ble_eq_true rfl, Nat.le_of_ble_eq_true rfl⟩ (fun w1 H locs hw hP hD hS => ?_)
              obtain rfl := hw
              have hP : va_P D vwCl [(g13, .inl (cI, 2, .inl su)), (g14, .inl (cI, 2, .inl mn)), (g0, .inr (9, [.ref g1, .ref g2, .ref g3, .ref g4, .ref g5, .ref g6, .ref g7, .ref g8, .ref g9, .ref g10, .ref g11, .ref g12, .ref g13, .ref g14, .ref g15, .int isz, .int ith, .int ico, .int icl, .int irw, .int (nI ((nb + i) + 14)), .int ien, .int itr, .int ibl, .int ile, .int igr, .int ibk, .int ist, .int ibr])), (g5, .inl (cI, 600, .inl (pwF (nI un) 14 (pwO i lad nb) (nb + i))))] H := hP
              have hD : va_D A [(g13, .inl (cI, 2, .inl su)), (g14, .inl (cI, 2, .inl mn)), (g0, .inr (9, [.ref g1, .ref g2, .ref g3, .ref g4, .ref g5, .ref g6, .ref g7, .ref g8, .ref g9, .ref g10, .ref g11, .ref g12, .ref g13, .ref g14, .ref g15, .int isz, .int ith, .int ico, .int icl, .int irw, .int (nI ((nb + i) + 14)), .int ien, .int itr, .int ibl, .int ile, .int igr, .int ibk, .int ist, .int ibr])), (g5, .inl (cI, 600, .inl (pwF (nI un) 14 (pwO i lad nb) (nb + i))))] := hD
              refine lv_goto (tgt := 89) hx hb d_Model_putLevel_73 (by decide) ?_
              refine lv_aload_n hx hb d_Model_putLevel_89 rfl (lv_at hl 0 rfl) ?_
              refine lv_iload_n hx hb d_Model_putLevel_90 rfl (lv_at hl 2 rfl) ?_
              refine lv_iload_n hx hb d_Model_putLevel_91 rfl (lv_at hl 3 rfl) ?_
              refine cs_Vv (As := [.int (nI ct), .int (nI un)]) (rest := []) (wr := [(g5, .inl (cI, 600, .inl (pwF (nI un) 14 (pwO i lad nb) (nb + i))))]) ⟨hx, hb, hml, hown, hts⟩ (c_mo_learn l hcI g0 g1 g2 g3 g4 g5 g6 g7 g8 g9 g10 g11 g12 g13 g14 g15 isz ith ico icl irw (nI ((nb + i) + 14)) ien itr ibl ile igr ibk ist ibr su mn ct (nI un) (hc2)) (cwV 2 hts (cs_gV mw_399 mw_400 mw_401 mw_349 mw_388) rfl rfl rfl ⟨rfl, hd_Model_learn⟩ ⟨Nat.le_of_ble_eq_true rfl, Nat.le_of_ble_eq_true rfl⟩) hN hK hP hD hS hA [2, 0, 1] [3] rfl rfl rfl rfl (by decide) (ci := 9) rfl rfl rfl rfl rfl hl.1 (Nat.le_of_ble_eq_true rfl) d_Model_putLevel_92 ⟨Nat.le_of_ble_eq_true rfl, Nat.le_of_ble_eq_true rfl⟩ (fun w1 H locs hw hP hD hS => ?_)
              obtain rfl := hw
              have hP : va_P D vwCl [(g5, .inl (cI, 600, .inl (pwF (nI un) 14 (pwO i lad nb) (nb + i)))), (g0, .inr (9, [.ref g1, .ref g2, .ref g3, .ref g4, .ref g5, .ref g6, .ref g7, .ref g8, .ref g9, .ref g10, .ref g11, .ref g12, .ref g13, .ref g14, .ref g15, .int isz, .int ith, .int ico, .int icl, .int irw, .int (nI ((nb + i) + 14)), .int ien, .int itr, .int ibl, .int ile, .int igr, .int ibk, .int ist, .int ibr])), (g13, .inl (cI, 2, .inl (upd su ct (lrS (su ct) (mn ct) (nI un))))), (g14, .inl (cI, 2, .inl (upd mn ct (lrN (mn ct)))))] H := hP
              have hD : va_D A [(g5, .inl (cI, 600, .inl (pwF (nI un) 14 (pwO i lad nb) (nb + i)))), (g0, .inr (9, [.ref g1, .ref g2, .ref g3, .ref g4, .ref g5, .ref g6, .ref g7, .ref g8, .ref g9, .ref g10, .ref g11, .ref g12, .ref g13, .ref g14, .ref g15, .int isz, .int ith, .int ico, .int icl, .int irw, .int (nI ((nb + i) + 14)), .int ien, .int itr, .int ibl, .int ile, .int igr, .int ibk, .int ist, .int ibr])), (g13, .inl (cI, 2, .inl (upd su ct (lrS (su ct) (mn ct) (nI un))))), (g14, .inl (cI, 2, .inl (upd mn ct (lrN (mn ct)))))] := hD
              have hP := hP.sub (ws' := [(g0, .inr (9, [.ref g1, .ref g2, .ref g3, .ref g4, .ref g5, .ref g6, .ref g7, .ref g8, .ref g9, .ref g10, .ref g11, .ref g12, .ref g13, .ref g14, .ref g15, .int isz, .int ith, .int ico, .int icl, .int irw, .int (nI ((nb + i) + 14)), .int ien, .int itr, .int ibl, .int ile, .int igr, .int ibk, .int ist, .int ibr])), (g5, .inl (cI, 600, .inl (pwF (nI un) 14 (pwO i lad nb) (nb + i)))), (g13, .inl (cI, 2, .inl (upd su ct (lrS (su ct) (mn ct) (nI un))))), (g14, .inl (cI, 2, .inl (upd mn ct (lrN (mn ct)))))]) [1, 0, 2, 3] rfl
              have hD := hD.sub (ws' := [(g0, .inr (9, [.ref g1, .ref g2, .ref g3, .ref g4, .ref g5, .ref g6, .ref g7, .ref g8, .ref g9, .ref g10, .ref g11, .ref g12, .ref g13, .ref g14, .ref g15, .int isz, .int ith, .int ico, .int icl, .int irw, .int (nI ((nb + i) + 14)), .int ien, .int itr, .int ibl, .int ile, .int igr, .int ibk, .int ist, .int ibr])), (g5, .inl (cI, 600, .inl (pwF (nI un) 14 (pwO i lad nb) (nb + i)))), (g13, .inl (cI, 2, .inl (upd su ct (lrS (su ct) (mn ct) (nI un))))), (g14, .inl (cI, 2, .inl (upd mn ct (lrN (mn ct)))))]) [1, 0, 2, 3] (by decide) rfl
              exact W.vret hx hb hr (fun t ht hW => ⟨⟨[(g0, .inr (9, [.ref g1, .ref g2, .ref g3, .ref g4, .ref g5, .ref g6, .ref g7, .ref g8, .ref g9, .ref g10, .ref g11, .ref g12, .ref g13, .ref g14, .ref g15, .int isz, .int ith, .int ico, .int icl, .int irw, .int (nI ((nb + i) + 14)), .int ien, .int itr, .int ibl, .int ile, .int igr, .int ibk, .int ist, .int ibr])), (g5, .inl (cI, 600, .inl (pwF (nI un) 14 (pwO i lad nb) (nb + i)))), (g13, .inl (cI, 2, .inl (upd su ct (lrS (su ct) (mn ct) (nI un))))), (g14, .inl (cI, 2, .inl (upd mn ct (lrN (mn ct)))))], rfl, (show _ = _ from (by rw [puU, if_neg h12, hi5])), by rw [ht]; exact hP, va_K.moved hW.alike hK, hD⟩, hS.F ht⟩) hS.2.2 d_Model_putLevel_95
          · have hi3 : i < 12 := Nat.not_le.mp (fun h => c_44 ((nI_leI (a := 12) (b := i) (by decide) (by omega)).mpr h))
            refine lv_aload_n hx hb d_Model_putLevel_47 rfl (lv_at hl 0 rfl) ?_
            refine lv_iconst (v := 1) hx hb d_Model_putLevel_48 (by decide) ?_
            refine lv_iconst (v := 1) hx hb d_Model_putLevel_49 (by decide) ?_
            refine cs_Vv (As := [.int 1, .int 1]) (rest := []) (wr := [(g13, .inl (cI, 2, .inl su)), (g14, .inl (cI, 2, .inl mn))]) ⟨hx, hb, hml, hown, hts⟩ (c_mo_put l hcI g0 g1 g2 g3 g4 g5 g6 g7 g8 g9 g10 g11 g12 g13 g14 g15 isz ith ico icl irw (nb + i) ien itr ibl ile igr ibk ist ibr (pwO i lad nb) 1 1 (by omega)) (cwV 2 hts (cs_gV mw_396 mw_397 mw_398 mw_349 mw_389) rfl rfl rfl ⟨rfl, hd_Model_put⟩ ⟨Nat.le_of_ble_eq_true rfl, Nat.le_of_ble_eq_true rfl⟩) hN hK hP hD hS hA [0, 1] [2, 3] rfl rfl rfl rfl (by decide) (ci := 9) rfl rfl rfl rfl rfl hl.1 (Nat.le_of_ble_eq_true rfl) d_Model_putLevel_50 ⟨Nat.le_of_ble_eq_true rfl, Nat.le_of_ble_eq_true rfl⟩ (fun w1 H locs hw hP hD hS => ?_)
            obtain rfl := hw
            have hP : va_P D vwCl [(g13, .inl (cI, 2, .inl su)), (g14, .inl (cI, 2, .inl mn)), (g0, .inr (9, [.ref g1, .ref g2, .ref g3, .ref g4, .ref g5, .ref g6, .ref g7, .ref g8, .ref g9, .ref g10, .ref g11, .ref g12, .ref g13, .ref g14, .ref g15, .int isz, .int ith, .int ico, .int icl, .int irw, .int (nI ((nb + i) + 1)), .int ien, .int itr, .int ibl, .int ile, .int igr, .int ibk, .int ist, .int ibr])), (g5, .inl (cI, 600, .inl (pwF 1 1 (pwO i lad nb) (nb + i))))] H := hP
            have hD : va_D A [(g13, .inl (cI, 2, .inl su)), (g14, .inl (cI, 2, .inl mn)), (g0, .inr (9, [.ref g1, .ref g2, .ref g3, .ref g4, .ref g5, .ref g6, .ref g7, .ref g8, .ref g9, .ref g10, .ref g11, .ref g12, .ref g13, .ref g14, .ref g15, .int isz, .int ith, .int ico, .int icl, .int irw, .int (nI ((nb + i) + 1)), .int ien, .int itr, .int ibl, .int ile, .int igr, .int ibk, .int ist, .int ibr])), (g5, .inl (cI, 600, .inl (pwF 1 1 (pwO i lad nb) (nb + i))))] := hD
            refine lv_iinc (v := nI (i + 1)) (lv' := [(6, .int (nI (i + 1))), (0, .ref g0), (1, .int lev), (2, .int (nI ct)), (3, .int (nI un)), (4, .int (nI (lowK (mn ct) (su ct)))), (5, .int (nI (un / 2 ^ (lowK (mn ct) (su ct)))))]) hx hb d_Model_putLevel_53 hl (k := 6) rfl (nI_1 _) (by decide) rfl (fun ls hl => ?_)
            refine lv_goto (tgt := 33) hx hb d_Model_putLevel_56 (by decide) ?_
            exact ih33 (i + 1) (by omega) (by omega) (by omega) _ _ _ (hP.sub (ws' := [(g0, .inr (9, [.ref g1, .ref g2, .ref g3, .ref g4, .ref g5, .ref g6, .ref g7, .ref g8, .ref g9, .ref g10, .ref g11, .ref g12, .ref g13, .ref g14, .ref g15, .int isz, .int ith, .int ico, .int icl, .int irw, .int (nI (nb + (i + 1))), .int ien, .int itr, .int ibl, .int ile, .int igr, .int ibk, .int ist, .int ibr])), (g5, .inl (cI, 600, .inl (pwO (i + 1) lad nb))), (g13, .inl (cI, 2, .inl su)), (g14, .inl (cI, 2, .inl mn))]) [2, 3, 0, 1] rfl) (hD.sub (ws' := [(g0, .inr (9, [.ref g1, .ref g2, .ref g3, .ref g4, .ref g5, .ref g6, .ref g7, .ref g8, .ref g9, .ref g10, .ref g11, .ref g12, .ref g13, .ref g14, .ref g15, .int isz, .int ith, .int ico, .int icl, .int irw, .int (nI (nb + (i + 1))), .int ien, .int itr, .int ibl, .int ile, .int igr, .int ibk, .int ist, .int ibr])), (g5, .inl (cI, 600, .inl (pwO (i + 1) lad nb))), (g13, .inl (cI, 2, .inl su)), (g14, .inl (cI, 2, .inl mn))]) [2, 3, 0, 1] (by decide) rfl) hS (lv_sub hl [1, 2, 3, 4, 5, 6, 0] rfl)
    exact lp33 (13) 0 (by omega) (Nat.zero_le _) (by omega) _ _ _ (hP.sub (ws' := [(g0, .inr (9, [.ref g1, .ref g2, .ref g3, .ref g4, .ref g5, .ref g6, .ref g7, .ref g8, .ref g9, .ref g10, .ref g11, .ref g12, .ref g13, .ref g14, .ref g15, .int isz, .int ith, .int ico, .int icl, .int irw, .int (nI (nb + 0)), .int ien, .int itr, .int ibl, .int ile, .int igr, .int ibk, .int ist, .int ibr])), (g5, .inl (cI, 600, .inl (pwO 0 lad nb))), (g13, .inl (cI, 2, .inl su)), (g14, .inl (cI, 2, .inl mn))]) [1, 0, 2, 3] rfl) (hD.sub (ws' := [(g0, .inr (9, [.ref g1, .ref g2, .ref g3, .ref g4, .ref g5, .ref g6, .ref g7, .ref g8, .ref g9, .ref g10, .ref g11, .ref g12, .ref g13, .ref g14, .ref g15, .int isz, .int ith, .int ico, .int icl, .int irw, .int (nI (nb + 0)), .int ien, .int itr, .int ibl, .int ile, .int igr, .int ibk, .int ist, .int ibr])), (g5, .inl (cI, 600, .inl (pwO 0 lad nb))), (g13, .inl (cI, 2, .inl su)), (g14, .inl (cI, 2, .inl mn))]) [1, 0, 2, 3] (by decide) rfl) hS (lv_sub hl [4, 5, 6, 3, 2, 1, 0] rfl)
  · refine lv_iconst (v := 2) hx hb d_Model_putLevel_4 (by decide) ?_
    refine lv_iload_n hx hb d_Model_putLevel_5 rfl (lv_at hl 1 rfl) ?_
    refine lv_imul hx hb d_Model_putLevel_6 ?_
    refine lv_iconst (v := 1) hx hb d_Model_putLevel_7 (by decide) ?_
    refine lv_isub hx hb d_Model_putLevel_8 ?_
    refine lv_goto (tgt := 16) hx hb d_Model_putLevel_9 (by decide) ?_
    refine cs_top (y := nI un) (by rw [← hu]; simp [c_1]) ?_
    refine lv_istore_n (lv' := [(3, .int (nI un)), (0, .ref g0), (1, .int lev), (2, .int (nI ct))]) hx hb d_Model_putLevel_16 rfl hl (by decide) rfl (fun ls hl => ?_)
    refine lv_aload_n hx hb d_Model_putLevel_17 rfl (lv_at hl 1 rfl) ?_
    refine lv_iload_n hx hb d_Model_putLevel_18 rfl (lv_at hl 3 rfl) ?_
    refine cs_Vi (As := [.int (nI ct)]) (rest := []) (wr := [(g5, .inl (cI, 600, .inl lad))]) ⟨hx, hb, hml, hown, hts⟩ (c_mo_coarse l hcI g0 g1 g2 g3 g4 g5 g6 g7 g8 g9 g10 g11 g12 g13 g14 g15 isz ith ico icl irw (nI nb) ien itr ibl ile igr ibk ist ibr su mn ct (hc2)) (cwV 1 hts (cs_gV mw_393 mw_394 mw_395 mw_349 mw_387) rfl rfl rfl ⟨rfl, hd_Model_coarse⟩ ⟨Nat.le_of_ble_eq_true rfl, Nat.le_of_ble_eq_true rfl⟩) hN hK hP hD hS hA [0, 2, 3] [1] rfl rfl rfl rfl (by decide) (ci := 9) rfl rfl rfl rfl rfl hl.1 (Nat.le_of_ble_eq_true rfl) d_Model_putLevel_19 ⟨Nat.le_of_ble_eq_true rfl, Nat.le_of_ble_eq_true rfl⟩ (fun r13 w1 H locs hw hP hD hS => ?_)
    obtain ⟨rfl, rfl⟩ := hw
    have hP : va_P D vwCl [(g5, .inl (cI, 600, .inl lad)), (g0, .inr (9, [.ref g1, .ref g2, .ref g3, .ref g4, .ref g5, .ref g6, .ref g7, .ref g8, .ref g9, .ref g10, .ref g11, .ref g12, .ref g13, .ref g14, .ref g15, .int isz, .int ith, .int ico, .int icl, .int irw, .int (nI nb), .int ien, .int itr, .int ibl, .int ile, .int igr, .int ibk, .int ist, .int ibr])), (g13, .inl (cI, 2, .inl su)), (g14, .inl (cI, 2, .inl mn))] H := hP
    have hD : va_D A [(g5, .inl (cI, 600, .inl lad)), (g0, .inr (9, [.ref g1, .ref g2, .ref g3, .ref g4, .ref g5, .ref g6, .ref g7, .ref g8, .ref g9, .ref g10, .ref g11, .ref g12, .ref g13, .ref g14, .ref g15, .int isz, .int ith, .int ico, .int icl, .int irw, .int (nI nb), .int ien, .int itr, .int ibl, .int ile, .int igr, .int ibk, .int ist, .int ibr])), (g13, .inl (cI, 2, .inl su)), (g14, .inl (cI, 2, .inl mn))] := hD
    refine lv_istore (lv' := [(4, .int (nI (lowK (mn ct) (su ct)))), (3, .int (nI un)), (0, .ref g0), (1, .int lev), (2, .int (nI ct))]) hx hb d_Model_putLevel_22 hl (by decide) rfl (fun ls hl => ?_)
    refine lv_iload_n hx hb d_Model_putLevel_24 rfl (lv_at hl 1 rfl) ?_
    refine lv_iload hx hb d_Model_putLevel_25 (lv_at hl 0 rfl) ?_
    refine lv_ishr hx hb d_Model_putLevel_27 ?_
    refine cs_top (y := nI (un / 2 ^ (lowK (mn ct) (su ct)))) (cs_shr hK1 (by omega)) ?_
    refine lv_istore (lv' := [(5, .int (nI (un / 2 ^ (lowK (mn ct) (su ct))))), (4, .int (nI (lowK (mn ct) (su ct)))), (3, .int (nI un)), (0, .ref g0), (1, .int lev), (2, .int (nI ct))]) hx hb d_Model_putLevel_28 hl (by decide) rfl (fun ls hl => ?_)
    refine lv_iconst (v := 0) hx hb d_Model_putLevel_30 (by decide) ?_
    refine lv_istore (lv' := [(6, .int 0), (5, .int (nI (un / 2 ^ (lowK (mn ct) (su ct))))), (4, .int (nI (lowK (mn ct) (su ct)))), (3, .int (nI un)), (0, .ref g0), (1, .int lev), (2, .int (nI ct))]) hx hb d_Model_putLevel_31 hl (by decide) rfl (fun ls hl => ?_)
    have lp33 : ∀ (n : Nat) (i : Nat), (13 ≤ i + n) → (i ≤ un / 2 ^ (lowK (mn ct) (su ct))) → (i ≤ 12) → ∀ (H : Heap) (locs : List Loc) (ls : Array Slot), va_P D vwCl [(g0, .inr (9, [.ref g1, .ref g2, .ref g3, .ref g4, .ref g5, .ref g6, .ref g7, .ref g8, .ref g9, .ref g10, .ref g11, .ref g12, .ref g13, .ref g14, .ref g15, .int isz, .int ith, .int ico, .int icl, .int irw, .int (nI (nb + i)), .int ien, .int itr, .int ibl, .int ile, .int igr, .int ibk, .int ist, .int ibr])), (g5, .inl (cI, 600, .inl (pwO i lad nb))), (g13, .inl (cI, 2, .inl su)), (g14, .inl (cI, 2, .inl mn))] H → va_D A [(g0, .inr (9, [.ref g1, .ref g2, .ref g3, .ref g4, .ref g5, .ref g6, .ref g7, .ref g8, .ref g9, .ref g10, .ref g11, .ref g12, .ref g13, .ref g14, .ref g15, .int isz, .int ith, .int ico, .int icl, .int irw, .int (nI (nb + i)), .int ien, .int itr, .int ibl, .int ile, .int igr, .int ibk, .int ist, .int ibr])), (g5, .inl (cI, 600, .inl (pwO i lad nb))), (g13, .inl (cI, 2, .inl su)), (g14, .inl (cI, 2, .inl mn))] → va_S A s.heap H locs → lv_has ls 7 [(0, .ref g0), (1, .int lev), (2, .int (nI ct)), (3, .int (nI un)), (4, .int (nI (lowK (mn ct) (su ct)))), (5, .int (nI (un / 2 ^ (lowK (mn ct) (su ct))))), (6, .int (nI i))] → W p l e ({ frames := 1, cells := 0, slots := 0, locals := 23 } : Room) s m ([.ref g0, .int lev, .int (nI ct)] : List Value).toArray below meth c H locs 0 0 (MQ below (va_Qv (q_mo_putLevel cI g0 g1 g2 g3 g4 g5 g6 g7 g8 g9 g10 g11 g12 g13 g14 g15 isz ith ico icl irw nb ien itr ibl ile igr ibk ist ibr lad su mn ct lev un) (cs_B D vwCl tys A) A) ([.ref g0, .int lev, .int (nI ct)] : List Value).toArray s 0 0 A) (F0 m 33 ls []) := by
      intro n
      induction n with
      | zero =>
        intro i hf hi hi12
        exact absurd hf (by omega)
      | succ n ih33 =>
        intro i hf hi hi12 H locs ls hP hD hS hl
        refine lv_iload hx hb d_Model_putLevel_33 (lv_at hl 6 rfl) ?_
        refine lv_iload hx hb d_Model_putLevel_35 (lv_at hl 5 rfl) ?_
        refine lv_icmp_ge (tgt := 59) hx hb d_Model_putLevel_37 (by decide) (fun c_37 => ?_) (fun c_37 => ?_)
        · have hi2 : un / 2 ^ (lowK (mn ct) (su ct)) ≤ i := (nI_leI (a := un / 2 ^ (lowK (mn ct) (su ct))) (b := i) (by omega) (by omega)).mp c_37
          refine lv_iload hx hb d_Model_putLevel_59 (lv_at hl 5 rfl) ?_
          refine lv_bipush (v := 12) hx hb d_Model_putLevel_61 (by decide) ?_
          refine lv_icmp_lt (tgt := 76) hx hb d_Model_putLevel_63 (by decide) (fun c_63 => ?_) (fun c_63 => ?_)
          · have h12 : un / 2 ^ (lowK (mn ct) (su ct)) < 12 := (nI_ltI (a := un / 2 ^ (lowK (mn ct) (su ct))) (b := 12) (by omega) (by decide)).mp c_63
            have hi5 : i = un / 2 ^ (lowK (mn ct) (su ct)) := by omega
            refine lv_aload_n hx hb d_Model_putLevel_76 rfl (lv_at hl 0 rfl) ?_
            refine lv_iconst (v := 0) hx hb d_Model_putLevel_77 (by decide) ?_
            refine lv_iconst (v := 1) hx hb d_Model_putLevel_78 (by decide) ?_
            refine cs_Vv (As := [.int 0, .int 1]) (rest := []) (wr := [(g13, .inl (cI, 2, .inl su)), (g14, .inl (cI, 2, .inl mn))]) ⟨hx, hb, hml, hown, hts⟩ (c_mo_put l hcI g0 g1 g2 g3 g4 g5 g6 g7 g8 g9 g10 g11 g12 g13 g14 g15 isz ith ico icl irw (nb + i) ien itr ibl ile igr ibk ist ibr (pwO i lad nb) 0 1 (by omega)) (cwV 2 hts (cs_gV mw_396 mw_397 mw_398 mw_349 mw_389) rfl rfl rfl ⟨rfl, hd_Model_put⟩ ⟨Nat.le_of_ble_eq_true rfl, Nat.le_of_ble_eq_true rfl⟩) hN hK hP hD hS hA [0, 1] [2, 3] rfl rfl rfl rfl (by decide) (ci := 9) rfl rfl rfl rfl rfl hl.1 (Nat.le_of_ble_eq_true rfl) d_Model_putLevel_79 ⟨Nat.le_of_ble_eq_true rfl, Nat.le_of_ble_eq_true rfl⟩ (fun w1 H locs hw hP hD hS => ?_)
            obtain rfl := hw
            have hP : va_P D vwCl [(g13, .inl (cI, 2, .inl su)), (g14, .inl (cI, 2, .inl mn)), (g0, .inr (9, [.ref g1, .ref g2, .ref g3, .ref g4, .ref g5, .ref g6, .ref g7, .ref g8, .ref g9, .ref g10, .ref g11, .ref g12, .ref g13, .ref g14, .ref g15, .int isz, .int ith, .int ico, .int icl, .int irw, .int (nI ((nb + i) + 1)), .int ien, .int itr, .int ibl, .int ile, .int igr, .int ibk, .int ist, .int ibr])), (g5, .inl (cI, 600, .inl (pwF 0 1 (pwO i lad nb) (nb + i))))] H := hP
            have hD : va_D A [(g13, .inl (cI, 2, .inl su)), (g14, .inl (cI, 2, .inl mn)), (g0, .inr (9, [.ref g1, .ref g2, .ref g3, .ref g4, .ref g5, .ref g6, .ref g7, .ref g8, .ref g9, .ref g10, .ref g11, .ref g12, .ref g13, .ref g14, .ref g15, .int isz, .int ith, .int ico, .int icl, .int irw, .int (nI ((nb + i) + 1)), .int ien, .int itr, .int ibl, .int ile, .int igr, .int ibk, .int ist, .int ibr])), (g5, .inl (cI, 600, .inl (pwF 0 1 (pwO i lad nb) (nb + i))))] := hD
            refine lv_aload_n hx hb d_Model_putLevel_82 rfl (lv_at hl 0 rfl) ?_
            refine lv_iload_n hx hb d_Model_putLevel_83 rfl (lv_at hl 3 rfl) ?_
            refine lv_iload hx hb d_Model_putLevel_84 (lv_at hl 4 rfl) ?_
            refine cs_Vv (As := [.int (nI un), .int (nI (lowK (mn ct) (su ct)))]) (rest := []) (wr := [(g13, .inl (cI, 2, .inl su)), (g14, .inl (cI, 2, .inl mn))]) ⟨hx, hb, hml, hown, hts⟩ (c_mo_put l hcI g0 g1 g2 g3 g4 g5 g6 g7 g8 g9 g10 g11 g12 g13 g14 g15 isz ith ico icl irw ((nb + i) + 1) ien itr ibl ile igr ibk ist ibr (pwF 0 1 (pwO i lad nb) (nb + i)) (nI un) (lowK (mn ct) (su ct)) (by omega)) (cwV 2 hts (cs_gV mw_396 mw_397 mw_398 mw_349 mw_389) rfl rfl rfl ⟨rfl, hd_Model_put⟩ ⟨Nat.le_of_ble_eq_true rfl, Nat.le_of_ble_eq_true rfl⟩) hN hK hP hD hS hA [2, 3] [0, 1] rfl rfl rfl rfl (by decide) (ci := 9) rfl rfl rfl rfl rfl hl.1 (Nat.le_of_ble_eq_true rfl) d_Model_putLevel_86 ⟨Nat.le_of_ble_eq_true rfl, Nat.le_of_ble_eq_true rfl⟩ (fun w1 H locs hw hP hD hS => ?_)
            obtain rfl := hw
            have hP : va_P D vwCl [(g13, .inl (cI, 2, .inl su)), (g14, .inl (cI, 2, .inl mn)), (g0, .inr (9, [.ref g1, .ref g2, .ref g3, .ref g4, .ref g5, .ref g6, .ref g7, .ref g8, .ref g9, .ref g10, .ref g11, .ref g12, .ref g13, .ref g14, .ref g15, .int isz, .int ith, .int ico, .int icl, .int irw, .int (nI (((nb + i) + 1) + (lowK (mn ct) (su ct)))), .int ien, .int itr, .int ibl, .int ile, .int igr, .int ibk, .int ist, .int ibr])), (g5, .inl (cI, 600, .inl (pwF (nI un) (lowK (mn ct) (su ct)) (pwF 0 1 (pwO i lad nb) (nb + i)) ((nb + i) + 1))))] H := hP
            have hD : va_D A [(g13, .inl (cI, 2, .inl su)), (g14, .inl (cI, 2, .inl mn)), (g0, .inr (9, [.ref g1, .ref g2, .ref g3, .ref g4, .ref g5, .ref g6, .ref g7, .ref g8, .ref g9, .ref g10, .ref g11, .ref g12, .ref g13, .ref g14, .ref g15, .int isz, .int ith, .int ico, .int icl, .int irw, .int (nI (((nb + i) + 1) + (lowK (mn ct) (su ct)))), .int ien, .int itr, .int ibl, .int ile, .int igr, .int ibk, .int ist, .int ibr])), (g5, .inl (cI, 600, .inl (pwF (nI un) (lowK (mn ct) (su ct)) (pwF 0 1 (pwO i lad nb) (nb + i)) ((nb + i) + 1))))] := hD
            refine lv_aload_n hx hb d_Model_putLevel_89 rfl (lv_at hl 0 rfl) ?_
            refine lv_iload_n hx hb d_Model_putLevel_90 rfl (lv_at hl 2 rfl) ?_
            refine lv_iload_n hx hb d_Model_putLevel_91 rfl (lv_at hl 3 rfl) ?_
            refine cs_Vv (As := [.int (nI ct), .int (nI un)]) (rest := []) (wr := [(g5, .inl (cI, 600, .inl (pwF (nI un) (lowK (mn ct) (su ct)) (pwF 0 1 (pwO i lad nb) (nb + i)) ((nb + i) + 1))))]) ⟨hx, hb, hml, hown, hts⟩ (c_mo_learn l hcI g0 g1 g2 g3 g4 g5 g6 g7 g8 g9 g10 g11 g12 g13 g14 g15 isz ith ico icl irw (nI (((nb + i) + 1) + (lowK (mn ct) (su ct)))) ien itr ibl ile igr ibk ist ibr su mn ct (nI un) (hc2)) (cwV 2 hts (cs_gV mw_399 mw_400 mw_401 mw_349 mw_388) rfl rfl rfl ⟨rfl, hd_Model_learn⟩ ⟨Nat.le_of_ble_eq_true rfl, Nat.le_of_ble_eq_true rfl⟩) hN hK hP hD hS hA [2, 0, 1] [3] rfl rfl rfl rfl (by decide) (ci := 9) rfl rfl rfl rfl rfl hl.1 (Nat.le_of_ble_eq_true rfl) d_Model_putLevel_92 ⟨Nat.le_of_ble_eq_true rfl, Nat.le_of_ble_eq_true rfl⟩ (fun w1 H locs hw hP hD hS => ?_)
            obtain rfl := hw
            have hP : va_P D vwCl [(g5, .inl (cI, 600, .inl (pwF (nI un) (lowK (mn ct) (su ct)) (pwF 0 1 (pwO i lad nb) (nb + i)) ((nb + i) + 1)))), (g0, .inr (9, [.ref g1, .ref g2, .ref g3, .ref g4, .ref g5, .ref g6, .ref g7, .ref g8, .ref g9, .ref g10, .ref g11, .ref g12, .ref g13, .ref g14, .ref g15, .int isz, .int ith, .int ico, .int icl, .int irw, .int (nI (((nb + i) + 1) + (lowK (mn ct) (su ct)))), .int ien, .int itr, .int ibl, .int ile, .int igr, .int ibk, .int ist, .int ibr])), (g13, .inl (cI, 2, .inl (upd su ct (lrS (su ct) (mn ct) (nI un))))), (g14, .inl (cI, 2, .inl (upd mn ct (lrN (mn ct)))))] H := hP
            have hD : va_D A [(g5, .inl (cI, 600, .inl (pwF (nI un) (lowK (mn ct) (su ct)) (pwF 0 1 (pwO i lad nb) (nb + i)) ((nb + i) + 1)))), (g0, .inr (9, [.ref g1, .ref g2, .ref g3, .ref g4, .ref g5, .ref g6, .ref g7, .ref g8, .ref g9, .ref g10, .ref g11, .ref g12, .ref g13, .ref g14, .ref g15, .int isz, .int ith, .int ico, .int icl, .int irw, .int (nI (((nb + i) + 1) + (lowK (mn ct) (su ct)))), .int ien, .int itr, .int ibl, .int ile, .int igr, .int ibk, .int ist, .int ibr])), (g13, .inl (cI, 2, .inl (upd su ct (lrS (su ct) (mn ct) (nI un))))), (g14, .inl (cI, 2, .inl (upd mn ct (lrN (mn ct)))))] := hD
            have hP := hP.sub (ws' := [(g0, .inr (9, [.ref g1, .ref g2, .ref g3, .ref g4, .ref g5, .ref g6, .ref g7, .ref g8, .ref g9, .ref g10, .ref g11, .ref g12, .ref g13, .ref g14, .ref g15, .int isz, .int ith, .int ico, .int icl, .int irw, .int (nI (((nb + i) + 1) + (lowK (mn ct) (su ct)))), .int ien, .int itr, .int ibl, .int ile, .int igr, .int ibk, .int ist, .int ibr])), (g5, .inl (cI, 600, .inl (pwF (nI un) (lowK (mn ct) (su ct)) (pwF 0 1 (pwO i lad nb) (nb + i)) ((nb + i) + 1)))), (g13, .inl (cI, 2, .inl (upd su ct (lrS (su ct) (mn ct) (nI un))))), (g14, .inl (cI, 2, .inl (upd mn ct (lrN (mn ct)))))]) [1, 0, 2, 3] rfl
            have hD := hD.sub (ws' := [(g0, .inr (9, [.ref g1, .ref g2, .ref g3, .ref g4, .ref g5, .ref g6, .ref g7, .ref g8, .ref g9, .ref g10, .ref g11, .ref g12, .ref g13, .ref g14, .ref g15, .int isz, .int ith, .int ico, .int icl, .int irw, .int (nI (((nb + i) + 1) + (lowK (mn ct) (su ct)))), .int ien, .int itr, .int ibl, .int ile, .int igr, .int ibk, .int ist, .int ibr])), (g5, .inl (cI, 600, .inl (pwF (nI un) (lowK (mn ct) (su ct)) (pwF 0 1 (pwO i lad nb) (nb + i)) ((nb + i) + 1)))), (g13, .inl (cI, 2, .inl (upd su ct (lrS (su ct) (mn ct) (nI un))))), (g14, .inl (cI, 2, .inl (upd mn ct (lrN (mn ct)))))]) [1, 0, 2, 3] (by decide) rfl
            exact W.vret hx hb hr (fun t ht hW => ⟨⟨[(g0, .inr (9, [.ref g1, .ref g2, .ref g3, .ref g4, .ref g5, .ref g6, .ref g7, .ref g8, .ref g9, .ref g10, .ref g11, .ref g12, .ref g13, .ref g14, .ref g15, .int isz, .int ith, .int ico, .int icl, .int irw, .int (nI (((nb + i) + 1) + (lowK (mn ct) (su ct)))), .int ien, .int itr, .int ibl, .int ile, .int igr, .int ibk, .int ist, .int ibr])), (g5, .inl (cI, 600, .inl (pwF (nI un) (lowK (mn ct) (su ct)) (pwF 0 1 (pwO i lad nb) (nb + i)) ((nb + i) + 1)))), (g13, .inl (cI, 2, .inl (upd su ct (lrS (su ct) (mn ct) (nI un))))), (g14, .inl (cI, 2, .inl (upd mn ct (lrN (mn ct)))))], rfl, (show _ = _ from (by rw [puU, if_pos h12, hi5])), by rw [ht]; exact hP, va_K.moved hW.alike hK, hD⟩, hS.F ht⟩) hS.2.2 d_Model_putLevel_95
          · have h12 : ¬ un / 2 ^ (lowK (mn ct) (su ct)) < 12 := fun h => c_63 (nI_lt (a := un / 2 ^ (lowK (mn ct) (su ct))) (b := 12) h (by decide))
            have hi5 : i = 12 := by omega
            refine lv_aload_n hx hb d_Model_putLevel_66 rfl (lv_at hl 0 rfl) ?_
            refine lv_iload_n hx hb d_Model_putLevel_67 rfl (lv_at hl 3 rfl) ?_
            refine lv_bipush (v := 14) hx hb d_Model_putLevel_68 (by decide) ?_
            refine cs_Vv (As := [.int (nI un), .int 14]) (rest := []) (wr := [(g13, .inl (cI, 2, .inl su)), (g14, .inl (cI, 2, .inl mn))]) ⟨hx, hb, hml, hown, hts⟩ (c_mo_put l hcI g0 g1 g2 g3 g4 g5 g6 g7 g8 g9 g10 g11 g12 g13 g14 g15 isz ith ico icl irw (nb + i) ien itr ibl ile igr ibk ist ibr (pwO i lad nb) (nI un) 14 (by omega)) (cwV 2 hts (cs_gV mw_396 mw_397 mw_398 mw_349 mw_389) rfl rfl rfl ⟨rfl, hd_Model_put⟩ ⟨Nat.le_of_ble_eq_true rfl, Nat.le_of_ble_eq_true rfl⟩) hN hK hP hD hS hA [0, 1] [2, 3] rfl rfl rfl rfl (by decide) (ci := 9) rfl rfl rfl rfl rfl hl.1 (Nat.le_of_ble_eq_true rfl) d_Model_putLevel_70 ⟨Nat.le_of_ble_eq_true rfl, Nat.le_of_ble_eq_true rfl⟩ (fun w1 H locs hw hP hD hS => ?_)
            obtain rfl := hw
            have hP : va_P D vwCl [(g13, .inl (cI, 2, .inl su)), (g14, .inl (cI, 2, .inl mn)), (g0, .inr (9, [.ref g1, .ref g2, .ref g3, .ref g4, .ref g5, .ref g6, .ref g7, .ref g8, .ref g9, .ref g10, .ref g11, .ref g12, .ref g13, .ref g14, .ref g15, .int isz, .int ith, .int ico, .int icl, .int irw, .int (nI ((nb + i) + 14)), .int ien, .int itr, .int ibl, .int ile, .int igr, .int ibk, .int ist, .int ibr])), (g5, .inl (cI, 600, .inl (pwF (nI un) 14 (pwO i lad nb) (nb + i))))] H := hP
            have hD : va_D A [(g13, .inl (cI, 2, .inl su)), (g14, .inl (cI, 2, .inl mn)), (g0, .inr (9, [.ref g1, .ref g2, .ref g3, .ref g4, .ref g5, .ref g6, .ref g7, .ref g8, .ref g9, .ref g10, .ref g11, .ref g12, .ref g13, .ref g14, .ref g15, .int isz, .int ith, .int ico, .int icl, .int irw, .int (nI ((nb + i) + 14)), .int ien, .int itr, .int ibl, .int ile, .int igr, .int ibk, .int ist, .int ibr])), (g5, .inl (cI, 600, .inl (pwF (nI un) 14 (pwO i lad nb) (nb + i))))] := hD
            refine lv_goto (tgt := 89) hx hb d_Model_putLevel_73 (by decide) ?_
            refine lv_aload_n hx hb d_Model_putLevel_89 rfl (lv_at hl 0 rfl) ?_
            refine lv_iload_n hx hb d_Model_putLevel_90 rfl (lv_at hl 2 rfl) ?_
            refine lv_iload_n hx hb d_Model_putLevel_91 rfl (lv_at hl 3 rfl) ?_
            refine cs_Vv (As := [.int (nI ct), .int (nI un)]) (rest := []) (wr := [(g5, .inl (cI, 600, .inl (pwF (nI un) 14 (pwO i lad nb) (nb + i))))]) ⟨hx, hb, hml, hown, hts⟩ (c_mo_learn l hcI g0 g1 g2 g3 g4 g5 g6 g7 g8 g9 g10 g11 g12 g13 g14 g15 isz ith ico icl irw (nI ((nb + i) + 14)) ien itr ibl ile igr ibk ist ibr su mn ct (nI un) (hc2)) (cwV 2 hts (cs_gV mw_399 mw_400 mw_401 mw_349 mw_388) rfl rfl rfl ⟨rfl, hd_Model_learn⟩ ⟨Nat.le_of_ble_eq_true rfl, Nat.le_of_ble_eq_true rfl⟩) hN hK hP hD hS hA [2, 0, 1] [3] rfl rfl rfl rfl (by decide) (ci := 9) rfl rfl rfl rfl rfl hl.1 (Nat.le_of_ble_eq_true rfl) d_Model_putLevel_92 ⟨Nat.le_of_ble_eq_true rfl, Nat.le_of_ble_eq_true rfl⟩ (fun w1 H locs hw hP hD hS => ?_)
            obtain rfl := hw
            have hP : va_P D vwCl [(g5, .inl (cI, 600, .inl (pwF (nI un) 14 (pwO i lad nb) (nb + i)))), (g0, .inr (9, [.ref g1, .ref g2, .ref g3, .ref g4, .ref g5, .ref g6, .ref g7, .ref g8, .ref g9, .ref g10, .ref g11, .ref g12, .ref g13, .ref g14, .ref g15, .int isz, .int ith, .int ico, .int icl, .int irw, .int (nI ((nb + i) + 14)), .int ien, .int itr, .int ibl, .int ile, .int igr, .int ibk, .int ist, .int ibr])), (g13, .inl (cI, 2, .inl (upd su ct (lrS (su ct) (mn ct) (nI un))))), (g14, .inl (cI, 2, .inl (upd mn ct (lrN (mn ct)))))] H := hP
            have hD : va_D A [(g5, .inl (cI, 600, .inl (pwF (nI un) 14 (pwO i lad nb) (nb + i)))), (g0, .inr (9, [.ref g1, .ref g2, .ref g3, .ref g4, .ref g5, .ref g6, .ref g7, .ref g8, .ref g9, .ref g10, .ref g11, .ref g12, .ref g13, .ref g14, .ref g15, .int isz, .int ith, .int ico, .int icl, .int irw, .int (nI ((nb + i) + 14)), .int ien, .int itr, .int ibl, .int ile, .int igr, .int ibk, .int ist, .int ibr])), (g13, .inl (cI, 2, .inl (upd su ct (lrS (su ct) (mn ct) (nI un))))), (g14, .inl (cI, 2, .inl (upd mn ct (lrN (mn ct)))))] := hD
            have hP := hP.sub (ws' := [(g0, .inr (9, [.ref g1, .ref g2, .ref g3, .ref g4, .ref g5, .ref g6, .ref g7, .ref g8, .ref g9, .ref g10, .ref g11, .ref g12, .ref g13, .ref g14, .ref g15, .int isz, .int ith, .int ico, .int icl, .int irw, .int (nI ((nb + i) + 14)), .int ien, .int itr, .int ibl, .int ile, .int igr, .int ibk, .int ist, .int ibr])), (g5, .inl (cI, 600, .inl (pwF (nI un) 14 (pwO i lad nb) (nb + i)))), (g13, .inl (cI, 2, .inl (upd su ct (lrS (su ct) (mn ct) (nI un))))), (g14, .inl (cI, 2, .inl (upd mn ct (lrN (mn ct)))))]) [1, 0, 2, 3] rfl
            have hD := hD.sub (ws' := [(g0, .inr (9, [.ref g1, .ref g2, .ref g3, .ref g4, .ref g5, .ref g6, .ref g7, .ref g8, .ref g9, .ref g10, .ref g11, .ref g12, .ref g13, .ref g14, .ref g15, .int isz, .int ith, .int ico, .int icl, .int irw, .int (nI ((nb + i) + 14)), .int ien, .int itr, .int ibl, .int ile, .int igr, .int ibk, .int ist, .int ibr])), (g5, .inl (cI, 600, .inl (pwF (nI un) 14 (pwO i lad nb) (nb + i)))), (g13, .inl (cI, 2, .inl (upd su ct (lrS (su ct) (mn ct) (nI un))))), (g14, .inl (cI, 2, .inl (upd mn ct (lrN (mn ct)))))]) [1, 0, 2, 3] (by decide) rfl
            exact W.vret hx hb hr (fun t ht hW => ⟨⟨[(g0, .inr (9, [.ref g1, .ref g2, .ref g3, .ref g4, .ref g5, .ref g6, .ref g7, .ref g8, .ref g9, .ref g10, .ref g11, .ref g12, .ref g13, .ref g14, .ref g15, .int isz, .int ith, .int ico, .int icl, .int irw, .int (nI ((nb + i) + 14)), .int ien, .int itr, .int ibl, .int ile, .int igr, .int ibk, .int ist, .int ibr])), (g5, .inl (cI, 600, .inl (pwF (nI un) 14 (pwO i lad nb) (nb + i)))), (g13, .inl (cI, 2, .inl (upd su ct (lrS (su ct) (mn ct) (nI un))))), (g14, .inl (cI, 2, .inl (upd mn ct (lrN (mn ct)))))], rfl, (show _ = _ from (by rw [puU, if_neg h12, hi5])), by rw [ht]; exact hP, va_K.moved hW.alike hK, hD⟩, hS.F ht⟩) hS.2.2 d_Model_putLevel_95
        · have hi2 : i < un / 2 ^ (lowK (mn ct) (su ct)) := Nat.not_le.mp (fun h => c_37 ((nI_leI (a := un / 2 ^ (lowK (mn ct) (su ct))) (b := i) (by omega) (by omega)).mpr h))
          refine lv_iload hx hb d_Model_putLevel_40 (lv_at hl 6 rfl) ?_
          refine lv_bipush (v := 12) hx hb d_Model_putLevel_42 (by decide) ?_
          refine lv_icmp_ge (tgt := 59) hx hb d_Model_putLevel_44 (by decide) (fun c_44 => ?_) (fun c_44 => ?_)
          · have hi3 := (nI_leI (a := 12) (b := i) (by decide) (by omega)).mp c_44
            refine lv_iload hx hb d_Model_putLevel_59 (lv_at hl 5 rfl) ?_
            refine lv_bipush (v := 12) hx hb d_Model_putLevel_61 (by decide) ?_
            refine lv_icmp_lt (tgt := 76) hx hb d_Model_putLevel_63 (by decide) (fun c_63 => ?_) (fun c_63 => ?_)
            · have h12 : un / 2 ^ (lowK (mn ct) (su ct)) < 12 := (nI_ltI (a := un / 2 ^ (lowK (mn ct) (su ct))) (b := 12) (by omega) (by decide)).mp c_63
              have hi5 : i = un / 2 ^ (lowK (mn ct) (su ct)) := by omega
              refine lv_aload_n hx hb d_Model_putLevel_76 rfl (lv_at hl 0 rfl) ?_
              refine lv_iconst (v := 0) hx hb d_Model_putLevel_77 (by decide) ?_
              refine lv_iconst (v := 1) hx hb d_Model_putLevel_78 (by decide) ?_
              refine cs_Vv (As := [.int 0, .int 1]) (rest := []) (wr := [(g13, .inl (cI, 2, .inl su)), (g14, .inl (cI, 2, .inl mn))]) ⟨hx, hb, hml, hown, hts⟩ (c_mo_put l hcI g0 g1 g2 g3 g4 g5 g6 g7 g8 g9 g10 g11 g12 g13 g14 g15 isz ith ico icl irw (nb + i) ien itr ibl ile igr ibk ist ibr (pwO i lad nb) 0 1 (by omega)) (cwV 2 hts (cs_gV mw_396 mw_397 mw_398 mw_349 mw_389) rfl rfl rfl ⟨rfl, hd_Model_put⟩ ⟨Nat.le_of_ble_eq_true rfl, Nat.le_of_ble_eq_true rfl⟩) hN hK hP hD hS hA [0, 1] [2, 3] rfl rfl rfl rfl (by decide) (ci := 9) rfl rfl rfl rfl rfl hl.1 (Nat.le_of_ble_eq_true rfl) d_Model_putLevel_79 ⟨Nat.le_of_ble_eq_true rfl, Nat.le_of_ble_eq_true rfl⟩ (fun w1 H locs hw hP hD hS => ?_)
              obtain rfl := hw
              have hP : va_P D vwCl [(g13, .inl (cI, 2, .inl su)), (g14, .inl (cI, 2, .inl mn)), (g0, .inr (9, [.ref g1, .ref g2, .ref g3, .ref g4, .ref g5, .ref g6, .ref g7, .ref g8, .ref g9, .ref g10, .ref g11, .ref g12, .ref g13, .ref g14, .ref g15, .int isz, .int ith, .int ico, .int icl, .int irw, .int (nI ((nb + i) + 1)), .int ien, .int itr, .int ibl, .int ile, .int igr, .int ibk, .int ist, .int ibr])), (g5, .inl (cI, 600, .inl (pwF 0 1 (pwO i lad nb) (nb + i))))] H := hP
              have hD : va_D A [(g13, .inl (cI, 2, .inl su)), (g14, .inl (cI, 2, .inl mn)), (g0, .inr (9, [.ref g1, .ref g2, .ref g3, .ref g4, .ref g5, .ref g6, .ref g7, .ref g8, .ref g9, .ref g10, .ref g11, .ref g12, .ref g13, .ref g14, .ref g15, .int isz, .int ith, .int ico, .int icl, .int irw, .int (nI ((nb + i) + 1)), .int ien, .int itr, .int ibl, .int ile, .int igr, .int ibk, .int ist, .int ibr])), (g5, .inl (cI, 600, .inl (pwF 0 1 (pwO i lad nb) (nb + i))))] := hD
              refine lv_aload_n hx hb d_Model_putLevel_82 rfl (lv_at hl 0 rfl) ?_
              refine lv_iload_n hx hb d_Model_putLevel_83 rfl (lv_at hl 3 rfl) ?_
              refine lv_iload hx hb d_Model_putLevel_84 (lv_at hl 4 rfl) ?_
              refine cs_Vv (As := [.int (nI un), .int (nI (lowK (mn ct) (su ct)))]) (rest := []) (wr := [(g13, .inl (cI, 2, .inl su)), (g14, .inl (cI, 2, .inl mn))]) ⟨hx, hb, hml, hown, hts⟩ (c_mo_put l hcI g0 g1 g2 g3 g4 g5 g6 g7 g8 g9 g10 g11 g12 g13 g14 g15 isz ith ico icl irw ((nb + i) + 1) ien itr ibl ile igr ibk ist ibr (pwF 0 1 (pwO i lad nb) (nb + i)) (nI un) (lowK (mn ct) (su ct)) (by omega)) (cwV 2 hts (cs_gV mw_396 mw_397 mw_398 mw_349 mw_389) rfl rfl rfl ⟨rfl, hd_Model_put⟩ ⟨Nat.le_of_ble_eq_true rfl, Nat.le_of_ble_eq_true rfl⟩) hN hK hP hD hS hA [2, 3] [0, 1] rfl rfl rfl rfl (by decide) (ci := 9) rfl rfl rfl rfl rfl hl.1 (Nat.le_of_ble_eq_true rfl) d_Model_putLevel_86 ⟨Nat.le_of_ble_eq_true rfl, Nat.le_of_ble_eq_true rfl⟩ (fun w1 H locs hw hP hD hS => ?_)
              obtain rfl := hw
              have hP : va_P D vwCl [(g13, .inl (cI, 2, .inl su)), (g14, .inl (cI, 2, .inl mn)), (g0, .inr (9, [.ref g1, .ref g2, .ref g3, .ref g4, .ref g5, .ref g6, .ref g7, .ref g8, .ref g9, .ref g10, .ref g11, .ref g12, .ref g13, .ref g14, .ref g15, .int isz, .int ith, .int ico, .int icl, .int irw, .int (nI (((nb + i) + 1) + (lowK (mn ct) (su ct)))), .int ien, .int itr, .int ibl, .int ile, .int igr, .int ibk, .int ist, .int ibr])), (g5, .inl (cI, 600, .inl (pwF (nI un) (lowK (mn ct) (su ct)) (pwF 0 1 (pwO i lad nb) (nb + i)) ((nb + i) + 1))))] H := hP
              have hD : va_D A [(g13, .inl (cI, 2, .inl su)), (g14, .inl (cI, 2, .inl mn)), (g0, .inr (9, [.ref g1, .ref g2, .ref g3, .ref g4, .ref g5, .ref g6, .ref g7, .ref g8, .ref g9, .ref g10, .ref g11, .ref g12, .ref g13, .ref g14, .ref g15, .int isz, .int ith, .int ico, .int icl, .int irw, .int (nI (((nb + i) + 1) + (lowK (mn ct) (su ct)))), .int ien, .int itr, .int ibl, .int ile, .int igr, .int ibk, .int ist, .int ibr])), (g5, .inl (cI, 600, .inl (pwF (nI un) (lowK (mn ct) (su ct)) (pwF 0 1 (pwO i lad nb) (nb + i)) ((nb + i) + 1))))] := hD
              refine lv_aload_n hx hb d_Model_putLevel_89 rfl (lv_at hl 0 rfl) ?_
              refine lv_iload_n hx hb d_Model_putLevel_90 rfl (lv_at hl 2 rfl) ?_
              refine lv_iload_n hx hb d_Model_putLevel_91 rfl (lv_at hl 3 rfl) ?_
              refine cs_Vv (As := [.int (nI ct), .int (nI un)]) (rest := []) (wr := [(g5, .inl (cI, 600, .inl (pwF (nI un) (lowK (mn ct) (su ct)) (pwF 0 1 (pwO i lad nb) (nb + i)) ((nb + i) + 1))))]) ⟨hx, hb, hml, hown, hts⟩ (c_mo_learn l hcI g0 g1 g2 g3 g4 g5 g6 g7 g8 g9 g10 g11 g12 g13 g14 g15 isz ith ico icl irw (nI (((nb + i) + 1) + (lowK (mn ct) (su ct)))) ien itr ibl ile igr ibk ist ibr su mn ct (nI un) (hc2)) (cwV 2 hts (cs_gV mw_399 mw_400 mw_401 mw_349 mw_388) rfl rfl rfl ⟨rfl, hd_Model_learn⟩ ⟨Nat.le_of_ble_eq_true rfl, Nat.le_of_ble_eq_true rfl⟩) hN hK hP hD hS hA [2, 0, 1] [3] rfl rfl rfl rfl (by decide) (ci := 9) rfl rfl rfl rfl rfl hl.1 (Nat.le_of_ble_eq_true rfl) d_Model_putLevel_92 ⟨Nat.le_of_ble_eq_true rfl, Nat.le_of_ble_eq_true rfl⟩ (fun w1 H locs hw hP hD hS => ?_)
              obtain rfl := hw
              have hP : va_P D vwCl [(g5, .inl (cI, 600, .inl (pwF (nI un) (lowK (mn ct) (su ct)) (pwF 0 1 (pwO i lad nb) (nb + i)) ((nb + i) + 1)))), (g0, .inr (9, [.ref g1, .ref g2, .ref g3, .ref g4, .ref g5, .ref g6, .ref g7, .ref g8, .ref g9, .ref g10, .ref g11, .ref g12, .ref g13, .ref g14, .ref g15, .int isz, .int ith, .int ico, .int icl, .int irw, .int (nI (((nb + i) + 1) + (lowK (mn ct) (su ct)))), .int ien, .int itr, .int ibl, .int ile, .int igr, .int ibk, .int ist, .int ibr])), (g13, .inl (cI, 2, .inl (upd su ct (lrS (su ct) (mn ct) (nI un))))), (g14, .inl (cI, 2, .inl (upd mn ct (lrN (mn ct)))))] H := hP
              have hD : va_D A [(g5, .inl (cI, 600, .inl (pwF (nI un) (lowK (mn ct) (su ct)) (pwF 0 1 (pwO i lad nb) (nb + i)) ((nb + i) + 1)))), (g0, .inr (9, [.ref g1, .ref g2, .ref g3, .ref g4, .ref g5, .ref g6, .ref g7, .ref g8, .ref g9, .ref g10, .ref g11, .ref g12, .ref g13, .ref g14, .ref g15, .int isz, .int ith, .int ico, .int icl, .int irw, .int (nI (((nb + i) + 1) + (lowK (mn ct) (su ct)))), .int ien, .int itr, .int ibl, .int ile, .int igr, .int ibk, .int ist, .int ibr])), (g13, .inl (cI, 2, .inl (upd su ct (lrS (su ct) (mn ct) (nI un))))), (g14, .inl (cI, 2, .inl (upd mn ct (lrN (mn ct)))))] := hD
              have hP := hP.sub (ws' := [(g0, .inr (9, [.ref g1, .ref g2, .ref g3, .ref g4, .ref g5, .ref g6, .ref g7, .ref g8, .ref g9, .ref g10, .ref g11, .ref g12, .ref g13, .ref g14, .ref g15, .int isz, .int ith, .int ico, .int icl, .int irw, .int (nI (((nb + i) + 1) + (lowK (mn ct) (su ct)))), .int ien, .int itr, .int ibl, .int ile, .int igr, .int ibk, .int ist, .int ibr])), (g5, .inl (cI, 600, .inl (pwF (nI un) (lowK (mn ct) (su ct)) (pwF 0 1 (pwO i lad nb) (nb + i)) ((nb + i) + 1)))), (g13, .inl (cI, 2, .inl (upd su ct (lrS (su ct) (mn ct) (nI un))))), (g14, .inl (cI, 2, .inl (upd mn ct (lrN (mn ct)))))]) [1, 0, 2, 3] rfl
              have hD := hD.sub (ws' := [(g0, .inr (9, [.ref g1, .ref g2, .ref g3, .ref g4, .ref g5, .ref g6, .ref g7, .ref g8, .ref g9, .ref g10, .ref g11, .ref g12, .ref g13, .ref g14, .ref g15, .int isz, .int ith, .int ico, .int icl, .int irw, .int (nI (((nb + i) + 1) + (lowK (mn ct) (su ct)))), .int ien, .int itr, .int ibl, .int ile, .int igr, .int ibk, .int ist, .int ibr])), (g5, .inl (cI, 600, .inl (pwF (nI un) (lowK (mn ct) (su ct)) (pwF 0 1 (pwO i lad nb) (nb + i)) ((nb + i) + 1)))), (g13, .inl (cI, 2, .inl (upd su ct (lrS (su ct) (mn ct) (nI un))))), (g14, .inl (cI, 2, .inl (upd mn ct (lrN (mn ct)))))]) [1, 0, 2, 3] (by decide) rfl
              exact W.vret hx hb hr (fun t ht hW => ⟨⟨[(g0, .inr (9, [.ref g1, .ref g2, .ref g3, .ref g4, .ref g5, .ref g6, .ref g7, .ref g8, .ref g9, .ref g10, .ref g11, .ref g12, .ref g13, .ref g14, .ref g15, .int isz, .int ith, .int ico, .int icl, .int irw, .int (nI (((nb + i) + 1) + (lowK (mn ct) (su ct)))), .int ien, .int itr, .int ibl, .int ile, .int igr, .int ibk, .int ist, .int ibr])), (g5, .inl (cI, 600, .inl (pwF (nI un) (lowK (mn ct) (su ct)) (pwF 0 1 (pwO i lad nb) (nb + i)) ((nb + i) + 1)))), (g13, .inl (cI, 2, .inl (upd su ct (lrS (su ct) (mn ct) (nI un))))), (g14, .inl (cI, 2, .inl (upd mn ct (lrN (mn ct)))))], rfl, (show _ = _ from (by rw [puU, if_pos h12, hi5])), by rw [ht]; exact hP, va_K.moved hW.alike hK, hD⟩, hS.F ht⟩) hS.2.2 d_Model_putLevel_95
            · have h12 : ¬ un / 2 ^ (lowK (mn ct) (su ct)) < 12 := fun h => c_63 (nI_lt (a := un / 2 ^ (lowK (mn ct) (su ct))) (b := 12) h (by decide))
              have hi5 : i = 12 := by omega
              refine lv_aload_n hx hb d_Model_putLevel_66 rfl (lv_at hl 0 rfl) ?_
              refine lv_iload_n hx hb d_Model_putLevel_67 rfl (lv_at hl 3 rfl) ?_
              refine lv_bipush (v := 14) hx hb d_Model_putLevel_68 (by decide) ?_
              refine cs_Vv (As := [.int (nI un), .int 14]) (rest := []) (wr := [(g13, .inl (cI, 2, .inl su)), (g14, .inl (cI, 2, .inl mn))]) ⟨hx, hb, hml, hown, hts⟩ (c_mo_put l hcI g0 g1 g2 g3 g4 g5 g6 g7 g8 g9 g10 g11 g12 g13 g14 g15 isz ith ico icl irw (nb + i) ien itr ibl ile igr ibk ist ibr (pwO i lad nb) (nI un) 14 (by omega)) (cwV 2 hts (cs_gV mw_396 mw_397 mw_398 mw_349 mw_389) rfl rfl rfl ⟨rfl, hd_Model_put⟩ ⟨Nat.le_of_ble_eq_true rfl, Nat.le_of_ble_eq_true rfl⟩) hN hK hP hD hS hA [0, 1] [2, 3] rfl rfl rfl rfl (by decide) (ci := 9) rfl rfl rfl rfl rfl hl.1 (Nat.le_of_ble_eq_true rfl) d_Model_putLevel_70 ⟨Nat.le_of_ble_eq_true rfl, Nat.le_of_ble_eq_true rfl⟩ (fun w1 H locs hw hP hD hS => ?_)
              obtain rfl := hw
              have hP : va_P D vwCl [(g13, .inl (cI, 2, .inl su)), (g14, .inl (cI, 2, .inl mn)), (g0, .inr (9, [.ref g1, .ref g2, .ref g3, .ref g4, .ref g5, .ref g6, .ref g7, .ref g8, .ref g9, .ref g10, .ref g11, .ref g12, .ref g13, .ref g14, .ref g15, .int isz, .int ith, .int ico, .int icl, .int irw, .int (nI ((nb + i) + 14)), .int ien, .int itr, .int ibl, .int ile, .int igr, .int ibk, .int ist, .int ibr])), (g5, .inl (cI, 600, .inl (pwF (nI un) 14 (pwO i lad nb) (nb + i))))] H := hP
              have hD : va_D A [(g13, .inl (cI, 2, .inl su)), (g14, .inl (cI, 2, .inl mn)), (g0, .inr (9, [.ref g1, .ref g2, .ref g3, .ref g4, .ref g5, .ref g6, .ref g7, .ref g8, .ref g9, .ref g10, .ref g11, .ref g12, .ref g13, .ref g14, .ref g15, .int isz, .int ith, .int ico, .int icl, .int irw, .int (nI ((nb + i) + 14)), .int ien, .int itr, .int ibl, .int ile, .int igr, .int ibk, .int ist, .int ibr])), (g5, .inl (cI, 600, .inl (pwF (nI un) 14 (pwO i lad nb) (nb + i))))] := hD
              refine lv_goto (tgt := 89) hx hb d_Model_putLevel_73 (by decide) ?_
              refine lv_aload_n hx hb d_Model_putLevel_89 rfl (lv_at hl 0 rfl) ?_
              refine lv_iload_n hx hb d_Model_putLevel_90 rfl (lv_at hl 2 rfl) ?_
              refine lv_iload_n hx hb d_Model_putLevel_91 rfl (lv_at hl 3 rfl) ?_
              refine cs_Vv (As := [.int (nI ct), .int (nI un)]) (rest := []) (wr := [(g5, .inl (cI, 600, .inl (pwF (nI un) 14 (pwO i lad nb) (nb + i))))]) ⟨hx, hb, hml, hown, hts⟩ (c_mo_learn l hcI g0 g1 g2 g3 g4 g5 g6 g7 g8 g9 g10 g11 g12 g13 g14 g15 isz ith ico icl irw (nI ((nb + i) + 14)) ien itr ibl ile igr ibk ist ibr su mn ct (nI un) (hc2)) (cwV 2 hts (cs_gV mw_399 mw_400 mw_401 mw_349 mw_388) rfl rfl rfl ⟨rfl, hd_Model_learn⟩ ⟨Nat.le_of_ble_eq_true rfl, Nat.le_of_ble_eq_true rfl⟩) hN hK hP hD hS hA [2, 0, 1] [3] rfl rfl rfl rfl (by decide) (ci := 9) rfl rfl rfl rfl rfl hl.1 (Nat.le_of_ble_eq_true rfl) d_Model_putLevel_92 ⟨Nat.le_of_ble_eq_true rfl, Nat.le_of_ble_eq_true rfl⟩ (fun w1 H locs hw hP hD hS => ?_)
              obtain rfl := hw
              have hP : va_P D vwCl [(g5, .inl (cI, 600, .inl (pwF (nI un) 14 (pwO i lad nb) (nb + i)))), (g0, .inr (9, [.ref g1, .ref g2, .ref g3, .ref g4, .ref g5, .ref g6, .ref g7, .ref g8, .ref g9, .ref g10, .ref g11, .ref g12, .ref g13, .ref g14, .ref g15, .int isz, .int ith, .int ico, .int icl, .int irw, .int (nI ((nb + i) + 14)), .int ien, .int itr, .int ibl, .int ile, .int igr, .int ibk, .int ist, .int ibr])), (g13, .inl (cI, 2, .inl (upd su ct (lrS (su ct) (mn ct) (nI un))))), (g14, .inl (cI, 2, .inl (upd mn ct (lrN (mn ct)))))] H := hP
              have hD : va_D A [(g5, .inl (cI, 600, .inl (pwF (nI un) 14 (pwO i lad nb) (nb + i)))), (g0, .inr (9, [.ref g1, .ref g2, .ref g3, .ref g4, .ref g5, .ref g6, .ref g7, .ref g8, .ref g9, .ref g10, .ref g11, .ref g12, .ref g13, .ref g14, .ref g15, .int isz, .int ith, .int ico, .int icl, .int irw, .int (nI ((nb + i) + 14)), .int ien, .int itr, .int ibl, .int ile, .int igr, .int ibk, .int ist, .int ibr])), (g13, .inl (cI, 2, .inl (upd su ct (lrS (su ct) (mn ct) (nI un))))), (g14, .inl (cI, 2, .inl (upd mn ct (lrN (mn ct)))))] := hD
              have hP := hP.sub (ws' := [(g0, .inr (9, [.ref g1, .ref g2, .ref g3, .ref g4, .ref g5, .ref g6, .ref g7, .ref g8, .ref g9, .ref g10, .ref g11, .ref g12, .ref g13, .ref g14, .ref g15, .int isz, .int ith, .int ico, .int icl, .int irw, .int (nI ((nb + i) + 14)), .int ien, .int itr, .int ibl, .int ile, .int igr, .int ibk, .int ist, .int ibr])), (g5, .inl (cI, 600, .inl (pwF (nI un) 14 (pwO i lad nb) (nb + i)))), (g13, .inl (cI, 2, .inl (upd su ct (lrS (su ct) (mn ct) (nI un))))), (g14, .inl (cI, 2, .inl (upd mn ct (lrN (mn ct)))))]) [1, 0, 2, 3] rfl
              have hD := hD.sub (ws' := [(g0, .inr (9, [.ref g1, .ref g2, .ref g3, .ref g4, .ref g5, .ref g6, .ref g7, .ref g8, .ref g9, .ref g10, .ref g11, .ref g12, .ref g13, .ref g14, .ref g15, .int isz, .int ith, .int ico, .int icl, .int irw, .int (nI ((nb + i) + 14)), .int ien, .int itr, .int ibl, .int ile, .int igr, .int ibk, .int ist, .int ibr])), (g5, .inl (cI, 600, .inl (pwF (nI un) 14 (pwO i lad nb) (nb + i)))), (g13, .inl (cI, 2, .inl (upd su ct (lrS (su ct) (mn ct) (nI un))))), (g14, .inl (cI, 2, .inl (upd mn ct (lrN (mn ct)))))]) [1, 0, 2, 3] (by decide) rfl
              exact W.vret hx hb hr (fun t ht hW => ⟨⟨[(g0, .inr (9, [.ref g1, .ref g2, .ref g3, .ref g4, .ref g5, .ref g6, .ref g7, .ref g8, .ref g9, .ref g10, .ref g11, .ref g12, .ref g13, .ref g14, .ref g15, .int isz, .int ith, .int ico, .int icl, .int irw, .int (nI ((nb + i) + 14)), .int ien, .int itr, .int ibl, .int ile, .int igr, .int ibk, .int ist, .int ibr])), (g5, .inl (cI, 600, .inl (pwF (nI un) 14 (pwO i lad nb) (nb + i)))), (g13, .inl (cI, 2, .inl (upd su ct (lrS (su ct) (mn ct) (nI un))))), (g14, .inl (cI, 2, .inl (upd mn ct (lrN (mn ct)))))], rfl, (show _ = _ from (by rw [puU, if_neg h12, hi5])), by rw [ht]; exact hP, va_K.moved hW.alike hK, hD⟩, hS.F ht⟩) hS.2.2 d_Model_putLevel_95
          · have hi3 : i < 12 := Nat.not_le.mp (fun h => c_44 ((nI_leI (a := 12) (b := i) (by decide) (by omega)).mpr h))
            refine lv_aload_n hx hb d_Model_putLevel_47 rfl (lv_at hl 0 rfl) ?_
            refine lv_iconst (v := 1) hx hb d_Model_putLevel_48 (by decide) ?_
            refine lv_iconst (v := 1) hx hb d_Model_putLevel_49 (by decide) ?_
            refine cs_Vv (As := [.int 1, .int 1]) (rest := []) (wr := [(g13, .inl (cI, 2, .inl su)), (g14, .inl (cI, 2, .inl mn))]) ⟨hx, hb, hml, hown, hts⟩ (c_mo_put l hcI g0 g1 g2 g3 g4 g5 g6 g7 g8 g9 g10 g11 g12 g13 g14 g15 isz ith ico icl irw (nb + i) ien itr ibl ile igr ibk ist ibr (pwO i lad nb) 1 1 (by omega)) (cwV 2 hts (cs_gV mw_396 mw_397 mw_398 mw_349 mw_389) rfl rfl rfl ⟨rfl, hd_Model_put⟩ ⟨Nat.le_of_ble_eq_true rfl, Nat.le_of_ble_eq_true rfl⟩) hN hK hP hD hS hA [0, 1] [2, 3] rfl rfl rfl rfl (by decide) (ci := 9) rfl rfl rfl rfl rfl hl.1 (Nat.le_of_ble_eq_true rfl) d_Model_putLevel_50 ⟨Nat.le_of_ble_eq_true rfl, Nat.le_of_ble_eq_true rfl⟩ (fun w1 H locs hw hP hD hS => ?_)
            obtain rfl := hw
            have hP : va_P D vwCl [(g13, .inl (cI, 2, .inl su)), (g14, .inl (cI, 2, .inl mn)), (g0, .inr (9, [.ref g1, .ref g2, .ref g3, .ref g4, .ref g5, .ref g6, .ref g7, .ref g8, .ref g9, .ref g10, .ref g11, .ref g12, .ref g13, .ref g14, .ref g15, .int isz, .int ith, .int ico, .int icl, .int irw, .int (nI ((nb + i) + 1)), .int ien, .int itr, .int ibl, .int ile, .int igr, .int ibk, .int ist, .int ibr])), (g5, .inl (cI, 600, .inl (pwF 1 1 (pwO i lad nb) (nb + i))))] H := hP
            have hD : va_D A [(g13, .inl (cI, 2, .inl su)), (g14, .inl (cI, 2, .inl mn)), (g0, .inr (9, [.ref g1, .ref g2, .ref g3, .ref g4, .ref g5, .ref g6, .ref g7, .ref g8, .ref g9, .ref g10, .ref g11, .ref g12, .ref g13, .ref g14, .ref g15, .int isz, .int ith, .int ico, .int icl, .int irw, .int (nI ((nb + i) + 1)), .int ien, .int itr, .int ibl, .int ile, .int igr, .int ibk, .int ist, .int ibr])), (g5, .inl (cI, 600, .inl (pwF 1 1 (pwO i lad nb) (nb + i))))] := hD
            refine lv_iinc (v := nI (i + 1)) (lv' := [(6, .int (nI (i + 1))), (0, .ref g0), (1, .int lev), (2, .int (nI ct)), (3, .int (nI un)), (4, .int (nI (lowK (mn ct) (su ct)))), (5, .int (nI (un / 2 ^ (lowK (mn ct) (su ct)))))]) hx hb d_Model_putLevel_53 hl (k := 6) rfl (nI_1 _) (by decide) rfl (fun ls hl => ?_)
            refine lv_goto (tgt := 33) hx hb d_Model_putLevel_56 (by decide) ?_
            exact ih33 (i + 1) (by omega) (by omega) (by omega) _ _ _ (hP.sub (ws' := [(g0, .inr (9, [.ref g1, .ref g2, .ref g3, .ref g4, .ref g5, .ref g6, .ref g7, .ref g8, .ref g9, .ref g10, .ref g11, .ref g12, .ref g13, .ref g14, .ref g15, .int isz, .int ith, .int ico, .int icl, .int irw, .int (nI (nb + (i + 1))), .int ien, .int itr, .int ibl, .int ile, .int igr, .int ibk, .int ist, .int ibr])), (g5, .inl (cI, 600, .inl (pwO (i + 1) lad nb))), (g13, .inl (cI, 2, .inl su)), (g14, .inl (cI, 2, .inl mn))]) [2, 3, 0, 1] rfl) (hD.sub (ws' := [(g0, .inr (9, [.ref g1, .ref g2, .ref g3, .ref g4, .ref g5, .ref g6, .ref g7, .ref g8, .ref g9, .ref g10, .ref g11, .ref g12, .ref g13, .ref g14, .ref g15, .int isz, .int ith, .int ico, .int icl, .int irw, .int (nI (nb + (i + 1))), .int ien, .int itr, .int ibl, .int ile, .int igr, .int ibk, .int ist, .int ibr])), (g5, .inl (cI, 600, .inl (pwO (i + 1) lad nb))), (g13, .inl (cI, 2, .inl su)), (g14, .inl (cI, 2, .inl mn))]) [2, 3, 0, 1] (by decide) rfl) hS (lv_sub hl [1, 2, 3, 4, 5, 6, 0] rfl)
    exact lp33 (13) 0 (by omega) (Nat.zero_le _) (by omega) _ _ _ (hP.sub (ws' := [(g0, .inr (9, [.ref g1, .ref g2, .ref g3, .ref g4, .ref g5, .ref g6, .ref g7, .ref g8, .ref g9, .ref g10, .ref g11, .ref g12, .ref g13, .ref g14, .ref g15, .int isz, .int ith, .int ico, .int icl, .int irw, .int (nI (nb + 0)), .int ien, .int itr, .int ibl, .int ile, .int igr, .int ibk, .int ist, .int ibr])), (g5, .inl (cI, 600, .inl (pwO 0 lad nb))), (g13, .inl (cI, 2, .inl su)), (g14, .inl (cI, 2, .inl mn))]) [1, 0, 2, 3] rfl) (hD.sub (ws' := [(g0, .inr (9, [.ref g1, .ref g2, .ref g3, .ref g4, .ref g5, .ref g6, .ref g7, .ref g8, .ref g9, .ref g10, .ref g11, .ref g12, .ref g13, .ref g14, .ref g15, .int isz, .int ith, .int ico, .int icl, .int irw, .int (nI (nb + 0)), .int ien, .int itr, .int ibl, .int ile, .int igr, .int ibk, .int ist, .int ibr])), (g5, .inl (cI, 600, .inl (pwO 0 lad nb))), (g13, .inl (cI, 2, .inl su)), (g14, .inl (cI, 2, .inl mn))]) [1, 0, 2, 3] (by decide) rfl) hS (lv_sub hl [4, 5, 6, 3, 2, 1, 0] rfl)
