def y_Model_stream : MethodName := ⟨"TileForgeModel", "stream", "(I)I"⟩
def ws_Model_stream : List Cond := .code y_Model_stream prog_11_method_30_code 2 (some .int) :: GW
theorem mw_443 : (.code ⟨"TileForgeModel", "stream", "(I)I"⟩ prog_11_method_30_code 2 (some .int) : Cond) ∈ GW := List.mem_filter.mpr ⟨(List.mem_append_right _ (List.mem_append_right _ (List.mem_append_right _ (List.mem_append_right _ (List.mem_of_getElem? (i := 159) rfl))))), rfl⟩
theorem hd_Model_stream : y_Model_stream.cls ≠ "java/lang/invoke/MethodHandle" ∧ y_Model_stream.cls ≠ "java/lang/invoke/VarHandle" ∧ (parseMethodDescriptor y_Model_stream.desc).map (fun d => d.parameters.length) = some 1 := by decide +kernel
theorem d_Model_stream_0 : decode prog_11_method_30_code 0 = .ok (.aload_n 0, 1) := by decide +kernel
theorem d_Model_stream_1 : decode prog_11_method_30_code 1 = .ok (.iload_n 1, 1) := by decide +kernel
theorem d_Model_stream_2 : decode prog_11_method_30_code 2 = .ok (.iconst (-1), 1) := by decide +kernel
theorem d_Model_stream_3 : decode prog_11_method_30_code 3 = .ok (.aload_n 0, 1) := by decide +kernel
theorem d_Model_stream_4 : decode prog_11_method_30_code 4 = .ok (.getfield 142, 3) := by decide +kernel
theorem d_Model_stream_7 : decode prog_11_method_30_code 7 = .ok (.iconst 1, 1) := by decide +kernel
theorem d_Model_stream_8 : decode prog_11_method_30_code 8 = .ok (.isub, 1) := by decide +kernel
theorem d_Model_stream_9 : decode prog_11_method_30_code 9 = .ok (.invokestatic 64, 3) := by decide +kernel
theorem d_Model_stream_12 : decode prog_11_method_30_code 12 = .ok (.ifCond .eq 7, 3) := by decide +kernel
theorem d_Model_stream_15 : decode prog_11_method_30_code 15 = .ok (.iconst 0, 1) := by decide +kernel
theorem d_Model_stream_16 : decode prog_11_method_30_code 16 = .ok (.goto 4, 3) := by decide +kernel
theorem d_Model_stream_19 : decode prog_11_method_30_code 19 = .ok (.iconst 1, 1) := by decide +kernel
theorem d_Model_stream_20 : decode prog_11_method_30_code 20 = .ok (.putfield 56, 3) := by decide +kernel
theorem d_Model_stream_23 : decode prog_11_method_30_code 23 = .ok (.aload_n 0, 1) := by decide +kernel
theorem d_Model_stream_24 : decode prog_11_method_30_code 24 = .ok (.getfield 56, 3) := by decide +kernel
theorem d_Model_stream_27 : decode prog_11_method_30_code 27 = .ok (.ifCond .le 7, 3) := by decide +kernel
theorem d_Model_stream_30 : decode prog_11_method_30_code 30 = .ok (.iconst 0, 1) := by decide +kernel
theorem d_Model_stream_31 : decode prog_11_method_30_code 31 = .ok (.goto 20, 3) := by decide +kernel
theorem d_Model_stream_34 : decode prog_11_method_30_code 34 = .ok (.iload_n 1, 1) := by decide +kernel
theorem d_Model_stream_35 : decode prog_11_method_30_code 35 = .ok (.ifCond .ge 10, 3) := by decide +kernel
theorem d_Model_stream_38 : decode prog_11_method_30_code 38 = .ok (.aload_n 0, 1) := by decide +kernel
theorem d_Model_stream_39 : decode prog_11_method_30_code 39 = .ok (.getfield 142, 3) := by decide +kernel
theorem d_Model_stream_42 : decode prog_11_method_30_code 42 = .ok (.goto 9, 3) := by decide +kernel
theorem d_Model_stream_45 : decode prog_11_method_30_code 45 = .ok (.aload_n 0, 1) := by decide +kernel
theorem d_Model_stream_46 : decode prog_11_method_30_code 46 = .ok (.getfield 19, 3) := by decide +kernel
theorem d_Model_stream_49 : decode prog_11_method_30_code 49 = .ok (.iload_n 1, 1) := by decide +kernel
theorem d_Model_stream_50 : decode prog_11_method_30_code 50 = .ok (.iaload, 1) := by decide +kernel
theorem d_Model_stream_51 : decode prog_11_method_30_code 51 = .ok (.ireturn, 1) := by decide +kernel
theorem mw_444 : (.fieldLink "TileForgeModel" 142 "TileForgeModel" "size" "I" : Cond) ∈ GW := List.mem_filter.mpr ⟨(List.mem_append_right _ (List.mem_append_right _ (List.mem_append_right _ (List.mem_append_left _ (List.mem_of_getElem? (i := 213) rfl))))), rfl⟩
def q_mo_stream (cI : ClassId) (g0 : Nat) (g1 : Nat) (g2 : Nat) (g3 : Nat) (g4 : Nat) (g5 : Nat) (g6 : Nat) (g7 : Nat) (g8 : Nat) (g9 : Nat) (g10 : Nat) (g11 : Nat) (g12 : Nat) (g13 : Nat) (g14 : Nat) (g15 : Nat) (ns : Nat) (ith : Int32) (ico : Int32) (icl : Int32) (irw : Int32) (ibi : Int32) (ien : Int32) (itr : Int32) (ibl : Int32) (ile : Int32) (igr : Int32) (ibk : Int32) (ist : Int32) (ibr : Int32) (str : Nat → Int32) (k : Nat) : Int32 → va_W → Prop := fun rr ww => rr = (str k) ∧ ww = [(g0, .inr (9, [.ref g1, .ref g2, .ref g3, .ref g4, .ref g5, .ref g6, .ref g7, .ref g8, .ref g9, .ref g10, .ref g11, .ref g12, .ref g13, .ref g14, .ref g15, .int (nI ns), .int 0, .int ico, .int icl, .int irw, .int ibi, .int ien, .int itr, .int ibl, .int ile, .int igr, .int ibk, .int ist, .int ibr])), (g4, .inl (cI, 400, .inl str))]
set_option maxHeartbeats 4000000 in
set_option maxRecDepth 100000 in
theorem c_mo_stream (l : Launch) {D : va_G} {tys : List (ClassId × FieldType)} {cI : ClassId} (hcI : tys[0]? = some (cI, .int)) (g0 : Nat) (g1 : Nat) (g2 : Nat) (g3 : Nat) (g4 : Nat) (g5 : Nat) (g6 : Nat) (g7 : Nat) (g8 : Nat) (g9 : Nat) (g10 : Nat) (g11 : Nat) (g12 : Nat) (g13 : Nat) (g14 : Nat) (g15 : Nat) (ns : Nat) (ith : Int32) (ico : Int32) (icl : Int32) (irw : Int32) (ibi : Int32) (ien : Int32) (itr : Int32) (ibl : Int32) (ile : Int32) (igr : Int32) (ibk : Int32) (ist : Int32) (ibr : Int32) (str : Nat → Int32) (k : Nat) (hns : ns ≤ 400) (hk : k < ns) : CsI l D vwCl tys y_Model_stream ws_Model_stream ({ frames := 1, cells := 0, slots := 0, locals := 22 } : Room) [.ref g0, .int (nI k)] [(g0, .inr (9, [.ref g1, .ref g2, .ref g3, .ref g4, .ref g5, .ref g6, .ref g7, .ref g8, .ref g9, .ref g10, .ref g11, .ref g12, .ref g13, .ref g14, .ref g15, .int (nI ns), .int ith, .int ico, .int icl, .int irw, .int ibi, .int ien, .int itr, .int ibl, .int ile, .int igr, .int ibk, .int ist, .int ibr])), (g4, .inl (cI, 400, .inl str))] (q_mo_stream cI g0 g1 g2 g3 g4 g5 g6 g7 g8 g9 g10 g11 g12 g13 g14 g15 ns ith ico icl irw ibi ien itr ibl ile igr ibk ist ibr str k) 0 0 := by
  intro sz
  refine Met.ofW (cc := prog_11_method_30_code) (maxL := 2) (ret := (some .int)) (by decide) rfl ?_
  intro p e s m args below meth c s₁ B hml hv
  obtain ⟨rfl, hsz, hP, hK, hD0, hN⟩ := hv
  have hx := B.exec
  have hb := B.bytes
  have hr := B.returns
  have hts := atoms_spec (ws := ws_Model_stream) B.pre
  have hown : s.vm.findClass "TileForgeModel" = some m.cls := findClass_of_methodNamed B.named
  have hlocks := B.notSynchronized
  subst hsz
  have hD := hD0.self (sz := s.heap.size)
  generalize hAe : va_A [(g0, .inr (9, [.ref g1, .ref g2, .ref g3, .ref g4, .ref g5, .ref g6, .ref g7, .ref g8, .ref g9, .ref g10, .ref g11, .ref g12, .ref g13, .ref g14, .ref g15, .int (nI ns), .int ith, .int ico, .int icl, .int irw, .int ibi, .int ien, .int itr, .int ibl, .int ile, .int igr, .int ibk, .int ist, .int ibr])), (g4, .inl (cI, 400, .inl str))] s.heap.size = A at hD ⊢
  have hA : ∀ q : Nat, s.heap.size ≤ q → A q := fun q h => by rw [← hAe]; exact Or.inr h
  have hS : va_S A s.heap s.heap [] := va_S.rf
  have hP : va_P D vwCl [(g0, .inr (9, [.ref g1, .ref g2, .ref g3, .ref g4, .ref g5, .ref g6, .ref g7, .ref g8, .ref g9, .ref g10, .ref g11, .ref g12, .ref g13, .ref g14, .ref g15, .int (nI ns), .int ith, .int ico, .int icl, .int irw, .int ibi, .int ien, .int itr, .int ibl, .int ile, .int igr, .int ibk, .int ist, .int ibr])), (g4, .inl (cI, 400, .inl str))] s.heap := hP
  have hl := lv_entry ([.ref g0, .int (nI k)]) (n := 2) (Nat.le_of_ble_eq_true rfl)
  rw [lg_entry_eq]
  generalize (lg_sl ([.ref g0, .int (nI k)]) ++ List.replicate (2 - (lg_sl ([.ref g0, .int (nI k)])).length) Slot.unset).toArray = ls at hl ⊢
  have hl : lv_has ls 2 [(0, .ref g0), (1, .int (nI k))] := hl
  refine lv_aload_n hx hb d_Model_stream_0 rfl (lv_at hl 0 rfl) ?_
  refine lv_iload_n hx hb d_Model_stream_1 rfl (lv_at hl 1 rfl) ?_
  refine lv_iconst (v := (-1)) hx hb d_Model_stream_2 (by decide) ?_
  refine lv_aload_n hx hb d_Model_stream_3 rfl (lv_at hl 0 rfl) ?_
  refine va_get (D := D) (ci := 9) (v := .int (nI ns)) (C := "TileForgeModel") (T := T_Model) (N := 29) hx hb hts (cs_in in_Model) hown hK hP 0 rfl rfl 15 (by decide) (hts _ (cs_m mw_444)) (fun _ h9 => h9) rfl d_Model_stream_4 ?_
  refine lv_iconst (v := 1) hx hb d_Model_stream_7 (by decide) ?_
  refine lv_isub hx hb d_Model_stream_8 ?_
  refine cs_Si (As := [.int (nI k), .int (-1), .int ((nI ns) - 1)]) (rest := [.ref g0]) (wr := [(g0, .inr (9, [.ref g1, .ref g2, .ref g3, .ref g4, .ref g5, .ref g6, .ref g7, .ref g8, .ref g9, .ref g10, .ref g11, .ref g12, .ref g13, .ref g14, .ref g15, .int (nI ns), .int ith, .int ico, .int icl, .int irw, .int ibi, .int ien, .int itr, .int ibl, .int ile, .int igr, .int ibk, .int ist, .int ibr])), (g4, .inl (cI, 400, .inl str))]) ⟨hx, hb, hml, hown, hts⟩ (c_mo_in l hcI (nI k) (-1) ((nI ns) - 1)) (va_cwS 3 hts (cs_gS mw_350 mw_351 mw_349 mw_341) rfl rfl rfl hd_Model_in ⟨Nat.le_of_ble_eq_true rfl, Nat.le_of_ble_eq_true rfl⟩) hN hK hP hD hS hA [] [0, 1] rfl rfl rfl rfl (by decide) rfl rfl hl.1 (Nat.le_of_ble_eq_true rfl) d_Model_stream_9 ⟨Nat.le_of_ble_eq_true rfl, Nat.le_of_ble_eq_true rfl⟩ (fun r1 w1 H locs hw hP hD hS => ?_)
  obtain ⟨rfl, rfl⟩ := hw
  have hP : va_P D vwCl [(g0, .inr (9, [.ref g1, .ref g2, .ref g3, .ref g4, .ref g5, .ref g6, .ref g7, .ref g8, .ref g9, .ref g10, .ref g11, .ref g12, .ref g13, .ref g14, .ref g15, .int (nI ns), .int ith, .int ico, .int icl, .int irw, .int ibi, .int ien, .int itr, .int ibl, .int ile, .int igr, .int ibk, .int ist, .int ibr])), (g4, .inl (cI, 400, .inl str))] H := hP
  have hD : va_D A [(g0, .inr (9, [.ref g1, .ref g2, .ref g3, .ref g4, .ref g5, .ref g6, .ref g7, .ref g8, .ref g9, .ref g10, .ref g11, .ref g12, .ref g13, .ref g14, .ref g15, .int (nI ns), .int ith, .int ico, .int icl, .int irw, .int ibi, .int ien, .int itr, .int ibl, .int ile, .int igr, .int ibk, .int ist, .int ibr])), (g4, .inl (cI, 400, .inl str))] := hD
  refine lv_if_eq (tgt := 19) hx hb d_Model_stream_12 (by decide) (fun c_12 => ?_) (fun c_12 => ?_)
  · have c_12 := cs_b0 c_12
    exact absurd (⟨cs_m1 (by omega), (cs_inN hk (by omega)).2⟩ : ¬ nI k < (-1) ∧ ¬ nI ns - 1 < nI k) c_12
  · have c_12 := cs_b1 c_12
    refine lv_iconst (v := 0) hx hb d_Model_stream_15 (by decide) ?_
    refine lv_goto (tgt := 20) hx hb d_Model_stream_16 (by decide) ?_
    refine va_put (D := D) (ci := 9) (v := .int 0) (ty := .int) (C := "TileForgeModel") (T := T_Model) (N := 29) hx hb hts (cs_in in_Model) ty_Model tok_Model nm_Model hown hK hP hD hS 0 rfl rfl 16 (by decide) (hts _ (cs_m mw_343)) (fun _ h9 => h9) rfl (by decide +kernel) rfl rfl (Nat.le_of_ble_eq_true rfl) d_Model_stream_20 (fun H locs hP hD hS => ?_)
    have hP : va_P D vwCl [(g0, .inr (9, [.ref g1, .ref g2, .ref g3, .ref g4, .ref g5, .ref g6, .ref g7, .ref g8, .ref g9, .ref g10, .ref g11, .ref g12, .ref g13, .ref g14, .ref g15, .int (nI ns), .int 0, .int ico, .int icl, .int irw, .int ibi, .int ien, .int itr, .int ibl, .int ile, .int igr, .int ibk, .int ist, .int ibr])), (g4, .inl (cI, 400, .inl str))] H := hP
    have hD : va_D A [(g0, .inr (9, [.ref g1, .ref g2, .ref g3, .ref g4, .ref g5, .ref g6, .ref g7, .ref g8, .ref g9, .ref g10, .ref g11, .ref g12, .ref g13, .ref g14, .ref g15, .int (nI ns), .int 0, .int ico, .int icl, .int irw, .int ibi, .int ien, .int itr, .int ibl, .int ile, .int igr, .int ibk, .int ist, .int ibr])), (g4, .inl (cI, 400, .inl str))] := hD
    refine lv_aload_n hx hb d_Model_stream_23 rfl (lv_at hl 0 rfl) ?_
    refine va_get (D := D) (ci := 9) (v := .int 0) (C := "TileForgeModel") (T := T_Model) (N := 29) hx hb hts (cs_in in_Model) hown hK hP 0 rfl rfl 16 (by decide) (hts _ (cs_m mw_343)) (fun _ h9 => h9) rfl d_Model_stream_24 ?_
    refine lv_if_le (tgt := 34) hx hb d_Model_stream_27 (by decide) (fun c_27 => ?_) (fun c_27 => ?_)
    · refine lv_iload_n hx hb d_Model_stream_34 rfl (lv_at hl 1 rfl) ?_
      refine lv_if_ge (tgt := 45) hx hb d_Model_stream_35 (by decide) (fun c_35 => ?_) (fun c_35 => ?_)
      · refine lv_aload_n hx hb d_Model_stream_45 rfl (lv_at hl 0 rfl) ?_
        refine va_get (D := D) (ci := 9) (v := .ref g4) (C := "TileForgeModel") (T := T_Model) (N := 29) hx hb hts (cs_in in_Model) hown hK hP 0 rfl rfl 3 (by decide) (hts _ (cs_m mw_422)) (fun _ h9 => h9) rfl d_Model_stream_46 ?_
        refine lv_iload_n hx hb d_Model_stream_49 rfl (lv_at hl 1 rfl) ?_
        refine cs_iald (j := k) hx hb hK hcI hP 1 rfl (rfl) (by omega) (by decide) d_Model_stream_50 ?_
        exact W.iret (v := (str k)) hx hb hr (fun t ht hW => ⟨⟨(str k), [(g0, .inr (9, [.ref g1, .ref g2, .ref g3, .ref g4, .ref g5, .ref g6, .ref g7, .ref g8, .ref g9, .ref g10, .ref g11, .ref g12, .ref g13, .ref g14, .ref g15, .int (nI ns), .int 0, .int ico, .int icl, .int irw, .int ibi, .int ien, .int itr, .int ibl, .int ile, .int igr, .int ibk, .int ist, .int ibr])), (g4, .inl (cI, 400, .inl str))], rfl, ⟨(rfl), (rfl)⟩, by rw [ht]; exact hP, va_K.moved hW.alike hK, hD⟩, hS.F ht⟩) hS.2.2 d_Model_stream_51
      · exact absurd (nI_pos' (n := k) (by omega)) c_35
    · exact absurd c_27 (by decide)
def q_mo_streamL (cI : ClassId) (g0 : Nat) (g1 : Nat) (g2 : Nat) (g3 : Nat) (g4 : Nat) (g5 : Nat) (g6 : Nat) (g7 : Nat) (g8 : Nat) (g9 : Nat) (g10 : Nat) (g11 : Nat) (g12 : Nat) (g13 : Nat) (g14 : Nat) (g15 : Nat) (ns : Nat) (ith : Int32) (ico : Int32) (icl : Int32) (irw : Int32) (ibi : Int32) (ien : Int32) (itr : Int32) (ibl : Int32) (ile : Int32) (igr : Int32) (ibk : Int32) (ist : Int32) (ibr : Int32) : Int32 → va_W → Prop := fun rr ww => rr = (nI ns) ∧ ww = [(g0, .inr (9, [.ref g1, .ref g2, .ref g3, .ref g4, .ref g5, .ref g6, .ref g7, .ref g8, .ref g9, .ref g10, .ref g11, .ref g12, .ref g13, .ref g14, .ref g15, .int (nI ns), .int 0, .int ico, .int icl, .int irw, .int ibi, .int ien, .int itr, .int ibl, .int ile, .int igr, .int ibk, .int ist, .int ibr]))]
set_option maxHeartbeats 4000000 in
set_option maxRecDepth 100000 in
theorem c_mo_streamL (l : Launch) {D : va_G} {tys : List (ClassId × FieldType)} {cI : ClassId} (hcI : tys[0]? = some (cI, .int)) (g0 : Nat) (g1 : Nat) (g2 : Nat) (g3 : Nat) (g4 : Nat) (g5 : Nat) (g6 : Nat) (g7 : Nat) (g8 : Nat) (g9 : Nat) (g10 : Nat) (g11 : Nat) (g12 : Nat) (g13 : Nat) (g14 : Nat) (g15 : Nat) (ns : Nat) (ith : Int32) (ico : Int32) (icl : Int32) (irw : Int32) (ibi : Int32) (ien : Int32) (itr : Int32) (ibl : Int32) (ile : Int32) (igr : Int32) (ibk : Int32) (ist : Int32) (ibr : Int32) (hns : ns ≤ 400) : CsI l D vwCl tys y_Model_stream ws_Model_stream ({ frames := 1, cells := 0, slots := 0, locals := 22 } : Room) [.ref g0, .int (-1)] [(g0, .inr (9, [.ref g1, .ref g2, .ref g3, .ref g4, .ref g5, .ref g6, .ref g7, .ref g8, .ref g9, .ref g10, .ref g11, .ref g12, .ref g13, .ref g14, .ref g15, .int (nI ns), .int ith, .int ico, .int icl, .int irw, .int ibi, .int ien, .int itr, .int ibl, .int ile, .int igr, .int ibk, .int ist, .int ibr]))] (q_mo_streamL cI g0 g1 g2 g3 g4 g5 g6 g7 g8 g9 g10 g11 g12 g13 g14 g15 ns ith ico icl irw ibi ien itr ibl ile igr ibk ist ibr) 0 0 := by
  intro sz
  refine Met.ofW (cc := prog_11_method_30_code) (maxL := 2) (ret := (some .int)) (by decide) rfl ?_
  intro p e s m args below meth c s₁ B hml hv
  obtain ⟨rfl, hsz, hP, hK, hD0, hN⟩ := hv
  have hx := B.exec
  have hb := B.bytes
  have hr := B.returns
  have hts := atoms_spec (ws := ws_Model_stream) B.pre
  have hown : s.vm.findClass "TileForgeModel" = some m.cls := findClass_of_methodNamed B.named
  have hlocks := B.notSynchronized
  subst hsz
  have hD := hD0.self (sz := s.heap.size)
  generalize hAe : va_A [(g0, .inr (9, [.ref g1, .ref g2, .ref g3, .ref g4, .ref g5, .ref g6, .ref g7, .ref g8, .ref g9, .ref g10, .ref g11, .ref g12, .ref g13, .ref g14, .ref g15, .int (nI ns), .int ith, .int ico, .int icl, .int irw, .int ibi, .int ien, .int itr, .int ibl, .int ile, .int igr, .int ibk, .int ist, .int ibr]))] s.heap.size = A at hD ⊢
  have hA : ∀ q : Nat, s.heap.size ≤ q → A q := fun q h => by rw [← hAe]; exact Or.inr h
  have hS : va_S A s.heap s.heap [] := va_S.rf
  have hP : va_P D vwCl [(g0, .inr (9, [.ref g1, .ref g2, .ref g3, .ref g4, .ref g5, .ref g6, .ref g7, .ref g8, .ref g9, .ref g10, .ref g11, .ref g12, .ref g13, .ref g14, .ref g15, .int (nI ns), .int ith, .int ico, .int icl, .int irw, .int ibi, .int ien, .int itr, .int ibl, .int ile, .int igr, .int ibk, .int ist, .int ibr]))] s.heap := hP
  have hl := lv_entry ([.ref g0, .int (-1)]) (n := 2) (Nat.le_of_ble_eq_true rfl)
  rw [lg_entry_eq]
  generalize (lg_sl ([.ref g0, .int (-1)]) ++ List.replicate (2 - (lg_sl ([.ref g0, .int (-1)])).length) Slot.unset).toArray = ls at hl ⊢
  have hl : lv_has ls 2 [(0, .ref g0), (1, .int (-1))] := hl
  refine lv_aload_n hx hb d_Model_stream_0 rfl (lv_at hl 0 rfl) ?_
  refine lv_iload_n hx hb d_Model_stream_1 rfl (lv_at hl 1 rfl) ?_
  refine lv_iconst (v := (-1)) hx hb d_Model_stream_2 (by decide) ?_
  refine lv_aload_n hx hb d_Model_stream_3 rfl (lv_at hl 0 rfl) ?_
  refine va_get (D := D) (ci := 9) (v := .int (nI ns)) (C := "TileForgeModel") (T := T_Model) (N := 29) hx hb hts (cs_in in_Model) hown hK hP 0 rfl rfl 15 (by decide) (hts _ (cs_m mw_444)) (fun _ h9 => h9) rfl d_Model_stream_4 ?_
  refine lv_iconst (v := 1) hx hb d_Model_stream_7 (by decide) ?_
  refine lv_isub hx hb d_Model_stream_8 ?_
  refine cs_Si (As := [.int (-1), .int (-1), .int ((nI ns) - 1)]) (rest := [.ref g0]) (wr := [(g0, .inr (9, [.ref g1, .ref g2, .ref g3, .ref g4, .ref g5, .ref g6, .ref g7, .ref g8, .ref g9, .ref g10, .ref g11, .ref g12, .ref g13, .ref g14, .ref g15, .int (nI ns), .int ith, .int ico, .int icl, .int irw, .int ibi, .int ien, .int itr, .int ibl, .int ile, .int igr, .int ibk, .int ist, .int ibr]))]) ⟨hx, hb, hml, hown, hts⟩ (c_mo_in l hcI (-1) (-1) ((nI ns) - 1)) (va_cwS 3 hts (cs_gS mw_350 mw_351 mw_349 mw_341) rfl rfl rfl hd_Model_in ⟨Nat.le_of_ble_eq_true rfl, Nat.le_of_ble_eq_true rfl⟩) hN hK hP hD hS hA [] [0] rfl rfl rfl rfl (by decide) rfl rfl hl.1 (Nat.le_of_ble_eq_true rfl) d_Model_stream_9 ⟨Nat.le_of_ble_eq_true rfl, Nat.le_of_ble_eq_true rfl⟩ (fun r1 w1 H locs hw hP hD hS => ?_)
  obtain ⟨rfl, rfl⟩ := hw
  have hP : va_P D vwCl [(g0, .inr (9, [.ref g1, .ref g2, .ref g3, .ref g4, .ref g5, .ref g6, .ref g7, .ref g8, .ref g9, .ref g10, .ref g11, .ref g12, .ref g13, .ref g14, .ref g15, .int (nI ns), .int ith, .int ico, .int icl, .int irw, .int ibi, .int ien, .int itr, .int ibl, .int ile, .int igr, .int ibk, .int ist, .int ibr]))] H := hP
  have hD : va_D A [(g0, .inr (9, [.ref g1, .ref g2, .ref g3, .ref g4, .ref g5, .ref g6, .ref g7, .ref g8, .ref g9, .ref g10, .ref g11, .ref g12, .ref g13, .ref g14, .ref g15, .int (nI ns), .int ith, .int ico, .int icl, .int irw, .int ibi, .int ien, .int itr, .int ibl, .int ile, .int igr, .int ibk, .int ist, .int ibr]))] := hD
  refine lv_if_eq (tgt := 19) hx hb d_Model_stream_12 (by decide) (fun c_12 => ?_) (fun c_12 => ?_)
  · have c_12 := cs_b0 c_12
    exact absurd (⟨by decide, cs_ns1 hns⟩ : ¬ (-1 : Int32) < (-1) ∧ ¬ nI ns - 1 < (-1)) c_12
  · have c_12 := cs_b1 c_12
    refine lv_iconst (v := 0) hx hb d_Model_stream_15 (by decide) ?_
    refine lv_goto (tgt := 20) hx hb d_Model_stream_16 (by decide) ?_
    refine va_put (D := D) (ci := 9) (v := .int 0) (ty := .int) (C := "TileForgeModel") (T := T_Model) (N := 29) hx hb hts (cs_in in_Model) ty_Model tok_Model nm_Model hown hK hP hD hS 0 rfl rfl 16 (by decide) (hts _ (cs_m mw_343)) (fun _ h9 => h9) rfl (by decide +kernel) rfl rfl (Nat.le_of_ble_eq_true rfl) d_Model_stream_20 (fun H locs hP hD hS => ?_)
    have hP : va_P D vwCl [(g0, .inr (9, [.ref g1, .ref g2, .ref g3, .ref g4, .ref g5, .ref g6, .ref g7, .ref g8, .ref g9, .ref g10, .ref g11, .ref g12, .ref g13, .ref g14, .ref g15, .int (nI ns), .int 0, .int ico, .int icl, .int irw, .int ibi, .int ien, .int itr, .int ibl, .int ile, .int igr, .int ibk, .int ist, .int ibr]))] H := hP
    have hD : va_D A [(g0, .inr (9, [.ref g1, .ref g2, .ref g3, .ref g4, .ref g5, .ref g6, .ref g7, .ref g8, .ref g9, .ref g10, .ref g11, .ref g12, .ref g13, .ref g14, .ref g15, .int (nI ns), .int 0, .int ico, .int icl, .int irw, .int ibi, .int ien, .int itr, .int ibl, .int ile, .int igr, .int ibk, .int ist, .int ibr]))] := hD
    refine lv_aload_n hx hb d_Model_stream_23 rfl (lv_at hl 0 rfl) ?_
    refine va_get (D := D) (ci := 9) (v := .int 0) (C := "TileForgeModel") (T := T_Model) (N := 29) hx hb hts (cs_in in_Model) hown hK hP 0 rfl rfl 16 (by decide) (hts _ (cs_m mw_343)) (fun _ h9 => h9) rfl d_Model_stream_24 ?_
    refine lv_if_le (tgt := 34) hx hb d_Model_stream_27 (by decide) (fun c_27 => ?_) (fun c_27 => ?_)
    · refine lv_iload_n hx hb d_Model_stream_34 rfl (lv_at hl 1 rfl) ?_
      refine lv_if_ge (tgt := 45) hx hb d_Model_stream_35 (by decide) (fun c_35 => ?_) (fun c_35 => ?_)
      · exact absurd c_35 (by decide)
      · refine lv_aload_n hx hb d_Model_stream_38 rfl (lv_at hl 0 rfl) ?_
        refine va_get (D := D) (ci := 9) (v := .int (nI ns)) (C := "TileForgeModel") (T := T_Model) (N := 29) hx hb hts (cs_in in_Model) hown hK hP 0 rfl rfl 15 (by decide) (hts _ (cs_m mw_444)) (fun _ h9 => h9) rfl d_Model_stream_39 ?_
        refine lv_goto (tgt := 51) hx hb d_Model_stream_42 (by decide) ?_
        exact W.iret (v := (nI ns)) hx hb hr (fun t ht hW => ⟨⟨(nI ns), [(g0, .inr (9, [.ref g1, .ref g2, .ref g3, .ref g4, .ref g5, .ref g6, .ref g7, .ref g8, .ref g9, .ref g10, .ref g11, .ref g12, .ref g13, .ref g14, .ref g15, .int (nI ns), .int 0, .int ico, .int icl, .int irw, .int ibi, .int ien, .int itr, .int ibl, .int ile, .int igr, .int ibk, .int ist, .int ibr]))], rfl, ⟨(rfl), (rfl)⟩, by rw [ht]; exact hP, va_K.moved hW.alike hK, hD⟩, hS.F ht⟩) hS.2.2 d_Model_stream_51
    · exact absurd c_27 (by decide)
def q_mo_streamB (cI : ClassId) (g0 : Nat) (g1 : Nat) (g2 : Nat) (g3 : Nat) (g4 : Nat) (g5 : Nat) (g6 : Nat) (g7 : Nat) (g8 : Nat) (g9 : Nat) (g10 : Nat) (g11 : Nat) (g12 : Nat) (g13 : Nat) (g14 : Nat) (g15 : Nat) (ns : Nat) (ith : Int32) (ico : Int32) (icl : Int32) (irw : Int32) (ibi : Int32) (ien : Int32) (itr : Int32) (ibl : Int32) (ile : Int32) (igr : Int32) (ibk : Int32) (ist : Int32) (ibr : Int32) (k : Int32) : Int32 → va_W → Prop := fun rr ww => rr = (0) ∧ ww = [(g0, .inr (9, [.ref g1, .ref g2, .ref g3, .ref g4, .ref g5, .ref g6, .ref g7, .ref g8, .ref g9, .ref g10, .ref g11, .ref g12, .ref g13, .ref g14, .ref g15, .int (nI ns), .int 1, .int ico, .int icl, .int irw, .int ibi, .int ien, .int itr, .int ibl, .int ile, .int igr, .int ibk, .int ist, .int ibr]))]
set_option maxHeartbeats 4000000 in
set_option maxRecDepth 100000 in
theorem c_mo_streamB (l : Launch) {D : va_G} {tys : List (ClassId × FieldType)} {cI : ClassId} (hcI : tys[0]? = some (cI, .int)) (g0 : Nat) (g1 : Nat) (g2 : Nat) (g3 : Nat) (g4 : Nat) (g5 : Nat) (g6 : Nat) (g7 : Nat) (g8 : Nat) (g9 : Nat) (g10 : Nat) (g11 : Nat) (g12 : Nat) (g13 : Nat) (g14 : Nat) (g15 : Nat) (ns : Nat) (ith : Int32) (ico : Int32) (icl : Int32) (irw : Int32) (ibi : Int32) (ien : Int32) (itr : Int32) (ibl : Int32) (ile : Int32) (igr : Int32) (ibk : Int32) (ist : Int32) (ibr : Int32) (k : Int32) (hbad : ¬ (¬ k < (-1) ∧ ¬ nI ns - 1 < k)) : CsI l D vwCl tys y_Model_stream ws_Model_stream ({ frames := 1, cells := 0, slots := 0, locals := 22 } : Room) [.ref g0, .int k] [(g0, .inr (9, [.ref g1, .ref g2, .ref g3, .ref g4, .ref g5, .ref g6, .ref g7, .ref g8, .ref g9, .ref g10, .ref g11, .ref g12, .ref g13, .ref g14, .ref g15, .int (nI ns), .int ith, .int ico, .int icl, .int irw, .int ibi, .int ien, .int itr, .int ibl, .int ile, .int igr, .int ibk, .int ist, .int ibr]))] (q_mo_streamB cI g0 g1 g2 g3 g4 g5 g6 g7 g8 g9 g10 g11 g12 g13 g14 g15 ns ith ico icl irw ibi ien itr ibl ile igr ibk ist ibr k) 0 0 := by
  intro sz
  refine Met.ofW (cc := prog_11_method_30_code) (maxL := 2) (ret := (some .int)) (by decide) rfl ?_
  intro p e s m args below meth c s₁ B hml hv
  obtain ⟨rfl, hsz, hP, hK, hD0, hN⟩ := hv
  have hx := B.exec
  have hb := B.bytes
  have hr := B.returns
  have hts := atoms_spec (ws := ws_Model_stream) B.pre
  have hown : s.vm.findClass "TileForgeModel" = some m.cls := findClass_of_methodNamed B.named
  have hlocks := B.notSynchronized
  subst hsz
  have hD := hD0.self (sz := s.heap.size)
  generalize hAe : va_A [(g0, .inr (9, [.ref g1, .ref g2, .ref g3, .ref g4, .ref g5, .ref g6, .ref g7, .ref g8, .ref g9, .ref g10, .ref g11, .ref g12, .ref g13, .ref g14, .ref g15, .int (nI ns), .int ith, .int ico, .int icl, .int irw, .int ibi, .int ien, .int itr, .int ibl, .int ile, .int igr, .int ibk, .int ist, .int ibr]))] s.heap.size = A at hD ⊢
  have hA : ∀ q : Nat, s.heap.size ≤ q → A q := fun q h => by rw [← hAe]; exact Or.inr h
  have hS : va_S A s.heap s.heap [] := va_S.rf
  have hP : va_P D vwCl [(g0, .inr (9, [.ref g1, .ref g2, .ref g3, .ref g4, .ref g5, .ref g6, .ref g7, .ref g8, .ref g9, .ref g10, .ref g11, .ref g12, .ref g13, .ref g14, .ref g15, .int (nI ns), .int ith, .int ico, .int icl, .int irw, .int ibi, .int ien, .int itr, .int ibl, .int ile, .int igr, .int ibk, .int ist, .int ibr]))] s.heap := hP
  have hl := lv_entry ([.ref g0, .int k]) (n := 2) (Nat.le_of_ble_eq_true rfl)
  rw [lg_entry_eq]
  generalize (lg_sl ([.ref g0, .int k]) ++ List.replicate (2 - (lg_sl ([.ref g0, .int k])).length) Slot.unset).toArray = ls at hl ⊢
  have hl : lv_has ls 2 [(0, .ref g0), (1, .int k)] := hl
  refine lv_aload_n hx hb d_Model_stream_0 rfl (lv_at hl 0 rfl) ?_
  refine lv_iload_n hx hb d_Model_stream_1 rfl (lv_at hl 1 rfl) ?_
  refine lv_iconst (v := (-1)) hx hb d_Model_stream_2 (by decide) ?_
  refine lv_aload_n hx hb d_Model_stream_3 rfl (lv_at hl 0 rfl) ?_
  refine va_get (D := D) (ci := 9) (v := .int (nI ns)) (C := "TileForgeModel") (T := T_Model) (N := 29) hx hb hts (cs_in in_Model) hown hK hP 0 rfl rfl 15 (by decide) (hts _ (cs_m mw_444)) (fun _ h9 => h9) rfl d_Model_stream_4 ?_
  refine lv_iconst (v := 1) hx hb d_Model_stream_7 (by decide) ?_
  refine lv_isub hx hb d_Model_stream_8 ?_
  refine cs_Si (As := [.int k, .int (-1), .int ((nI ns) - 1)]) (rest := [.ref g0]) (wr := [(g0, .inr (9, [.ref g1, .ref g2, .ref g3, .ref g4, .ref g5, .ref g6, .ref g7, .ref g8, .ref g9, .ref g10, .ref g11, .ref g12, .ref g13, .ref g14, .ref g15, .int (nI ns), .int ith, .int ico, .int icl, .int irw, .int ibi, .int ien, .int itr, .int ibl, .int ile, .int igr, .int ibk, .int ist, .int ibr]))]) ⟨hx, hb, hml, hown, hts⟩ (c_mo_in l hcI k (-1) ((nI ns) - 1)) (va_cwS 3 hts (cs_gS mw_350 mw_351 mw_349 mw_341) rfl rfl rfl hd_Model_in ⟨Nat.le_of_ble_eq_true rfl, Nat.le_of_ble_eq_true rfl⟩) hN hK hP hD hS hA [] [0] rfl rfl rfl rfl (by decide) rfl rfl hl.1 (Nat.le_of_ble_eq_true rfl) d_Model_stream_9 ⟨Nat.le_of_ble_eq_true rfl, Nat.le_of_ble_eq_true rfl⟩ (fun r1 w1 H locs hw hP hD hS => ?_)
  obtain ⟨rfl, rfl⟩ := hw
  have hP : va_P D vwCl [(g0, .inr (9, [.ref g1, .ref g2, .ref g3, .ref g4, .ref g5, .ref g6, .ref g7, .ref g8, .ref g9, .ref g10, .ref g11, .ref g12, .ref g13, .ref g14, .ref g15, .int (nI ns), .int ith, .int ico, .int icl, .int irw, .int ibi, .int ien, .int itr, .int ibl, .int ile, .int igr, .int ibk, .int ist, .int ibr]))] H := hP
  have hD : va_D A [(g0, .inr (9, [.ref g1, .ref g2, .ref g3, .ref g4, .ref g5, .ref g6, .ref g7, .ref g8, .ref g9, .ref g10, .ref g11, .ref g12, .ref g13, .ref g14, .ref g15, .int (nI ns), .int ith, .int ico, .int icl, .int irw, .int ibi, .int ien, .int itr, .int ibl, .int ile, .int igr, .int ibk, .int ist, .int ibr]))] := hD
  refine lv_if_eq (tgt := 19) hx hb d_Model_stream_12 (by decide) (fun c_12 => ?_) (fun c_12 => ?_)
  · have c_12 := cs_b0 c_12
    refine lv_iconst (v := 1) hx hb d_Model_stream_19 (by decide) ?_
    refine va_put (D := D) (ci := 9) (v := .int 1) (ty := .int) (C := "TileForgeModel") (T := T_Model) (N := 29) hx hb hts (cs_in in_Model) ty_Model tok_Model nm_Model hown hK hP hD hS 0 rfl rfl 16 (by decide) (hts _ (cs_m mw_343)) (fun _ h9 => h9) rfl (by decide +kernel) rfl rfl (Nat.le_of_ble_eq_true rfl) d_Model_stream_20 (fun H locs hP hD hS => ?_)
    have hP : va_P D vwCl [(g0, .inr (9, [.ref g1, .ref g2, .ref g3, .ref g4, .ref g5, .ref g6, .ref g7, .ref g8, .ref g9, .ref g10, .ref g11, .ref g12, .ref g13, .ref g14, .ref g15, .int (nI ns), .int 1, .int ico, .int icl, .int irw, .int ibi, .int ien, .int itr, .int ibl, .int ile, .int igr, .int ibk, .int ist, .int ibr]))] H := hP
    have hD : va_D A [(g0, .inr (9, [.ref g1, .ref g2, .ref g3, .ref g4, .ref g5, .ref g6, .ref g7, .ref g8, .ref g9, .ref g10, .ref g11, .ref g12, .ref g13, .ref g14, .ref g15, .int (nI ns), .int 1, .int ico, .int icl, .int irw, .int ibi, .int ien, .int itr, .int ibl, .int ile, .int igr, .int ibk, .int ist, .int ibr]))] := hD
    refine lv_aload_n hx hb d_Model_stream_23 rfl (lv_at hl 0 rfl) ?_
    refine va_get (D := D) (ci := 9) (v := .int 1) (C := "TileForgeModel") (T := T_Model) (N := 29) hx hb hts (cs_in in_Model) hown hK hP 0 rfl rfl 16 (by decide) (hts _ (cs_m mw_343)) (fun _ h9 => h9) rfl d_Model_stream_24 ?_
    refine lv_if_le (tgt := 34) hx hb d_Model_stream_27 (by decide) (fun c_27 => ?_) (fun c_27 => ?_)
    · exact absurd c_27 (by decide)
    · refine lv_iconst (v := 0) hx hb d_Model_stream_30 (by decide) ?_
      refine lv_goto (tgt := 51) hx hb d_Model_stream_31 (by decide) ?_
      exact W.iret (v := 0) hx hb hr (fun t ht hW => ⟨⟨0, [(g0, .inr (9, [.ref g1, .ref g2, .ref g3, .ref g4, .ref g5, .ref g6, .ref g7, .ref g8, .ref g9, .ref g10, .ref g11, .ref g12, .ref g13, .ref g14, .ref g15, .int (nI ns), .int 1, .int ico, .int icl, .int irw, .int ibi, .int ien, .int itr, .int ibl, .int ile, .int igr, .int ibk, .int ist, .int ibr]))], rfl, ⟨(rfl), (rfl)⟩, by rw [ht]; exact hP, va_K.moved hW.alike hK, hD⟩, hS.F ht⟩) hS.2.2 d_Model_stream_51
  · have c_12 := cs_b1 c_12
    exact absurd c_12 hbad
def y_Model_damage : MethodName := ⟨"TileForgeModel", "damage", "(II)I"⟩
def ws_Model_damage : List Cond := .code y_Model_damage prog_11_method_31_code 4 (some .int) :: GW
theorem mw_445 : (.code ⟨"TileForgeModel", "damage", "(II)I"⟩ prog_11_method_31_code 4 (some .int) : Cond) ∈ GW := List.mem_filter.mpr ⟨(List.mem_append_right _ (List.mem_append_right _ (List.mem_append_right _ (List.mem_append_right _ (List.mem_of_getElem? (i := 163) rfl))))), rfl⟩
theorem hd_Model_damage : y_Model_damage.cls ≠ "java/lang/invoke/MethodHandle" ∧ y_Model_damage.cls ≠ "java/lang/invoke/VarHandle" ∧ (parseMethodDescriptor y_Model_damage.desc).map (fun d => d.parameters.length) = some 2 := by decide +kernel
theorem d_Model_damage_0 : decode prog_11_method_31_code 0 = .ok (.iload_n 2, 1) := by decide +kernel
theorem d_Model_damage_1 : decode prog_11_method_31_code 1 = .ok (.iconst 0, 1) := by decide +kernel
theorem d_Model_damage_2 : decode prog_11_method_31_code 2 = .ok (.sipush 255, 3) := by decide +kernel
theorem d_Model_damage_5 : decode prog_11_method_31_code 5 = .ok (.invokestatic 64, 3) := by decide +kernel
theorem d_Model_damage_8 : decode prog_11_method_31_code 8 = .ok (.ifCond .ne 9, 3) := by decide +kernel
theorem d_Model_damage_11 : decode prog_11_method_31_code 11 = .ok (.aload_n 0, 1) := by decide +kernel
theorem d_Model_damage_12 : decode prog_11_method_31_code 12 = .ok (.iconst 1, 1) := by decide +kernel
theorem d_Model_damage_13 : decode prog_11_method_31_code 13 = .ok (.invokevirtual 60, 3) := by decide +kernel
theorem d_Model_damage_16 : decode prog_11_method_31_code 16 = .ok (.ireturn, 1) := by decide +kernel
theorem d_Model_damage_17 : decode prog_11_method_31_code 17 = .ok (.iload_n 1, 1) := by decide +kernel
theorem d_Model_damage_18 : decode prog_11_method_31_code 18 = .ok (.iconst 0, 1) := by decide +kernel
theorem d_Model_damage_19 : decode prog_11_method_31_code 19 = .ok (.aload_n 0, 1) := by decide +kernel
theorem d_Model_damage_20 : decode prog_11_method_31_code 20 = .ok (.getfield 142, 3) := by decide +kernel
theorem d_Model_damage_23 : decode prog_11_method_31_code 23 = .ok (.invokestatic 64, 3) := by decide +kernel
theorem d_Model_damage_26 : decode prog_11_method_31_code 26 = .ok (.ifCond .eq 10, 3) := by decide +kernel
theorem d_Model_damage_29 : decode prog_11_method_31_code 29 = .ok (.iload_n 1, 1) := by decide +kernel
theorem d_Model_damage_30 : decode prog_11_method_31_code 30 = .ok (.sipush 400, 3) := by decide +kernel
theorem d_Model_damage_33 : decode prog_11_method_31_code 33 = .ok (.if_icmp .ne 9, 3) := by decide +kernel
theorem d_Model_damage_36 : decode prog_11_method_31_code 36 = .ok (.aload_n 0, 1) := by decide +kernel
theorem d_Model_damage_37 : decode prog_11_method_31_code 37 = .ok (.iconst 2, 1) := by decide +kernel
theorem d_Model_damage_38 : decode prog_11_method_31_code 38 = .ok (.invokevirtual 60, 3) := by decide +kernel
theorem d_Model_damage_41 : decode prog_11_method_31_code 41 = .ok (.ireturn, 1) := by decide +kernel
theorem d_Model_damage_42 : decode prog_11_method_31_code 42 = .ok (.aload_n 0, 1) := by decide +kernel
theorem d_Model_damage_43 : decode prog_11_method_31_code 43 = .ok (.iconst 0, 1) := by decide +kernel
theorem d_Model_damage_44 : decode prog_11_method_31_code 44 = .ok (.putfield 56, 3) := by decide +kernel
theorem d_Model_damage_47 : decode prog_11_method_31_code 47 = .ok (.iload_n 1, 1) := by decide +kernel
theorem d_Model_damage_48 : decode prog_11_method_31_code 48 = .ok (.aload_n 0, 1) := by decide +kernel
theorem d_Model_damage_49 : decode prog_11_method_31_code 49 = .ok (.getfield 142, 3) := by decide +kernel
theorem d_Model_damage_52 : decode prog_11_method_31_code 52 = .ok (.if_icmp .ge 12, 3) := by decide +kernel
theorem d_Model_damage_55 : decode prog_11_method_31_code 55 = .ok (.aload_n 0, 1) := by decide +kernel
theorem d_Model_damage_56 : decode prog_11_method_31_code 56 = .ok (.getfield 19, 3) := by decide +kernel
theorem d_Model_damage_59 : decode prog_11_method_31_code 59 = .ok (.iload_n 1, 1) := by decide +kernel
theorem d_Model_damage_60 : decode prog_11_method_31_code 60 = .ok (.iaload, 1) := by decide +kernel
theorem d_Model_damage_61 : decode prog_11_method_31_code 61 = .ok (.goto 4, 3) := by decide +kernel
theorem d_Model_damage_64 : decode prog_11_method_31_code 64 = .ok (.iconst (-1), 1) := by decide +kernel
theorem d_Model_damage_65 : decode prog_11_method_31_code 65 = .ok (.istore_n 3, 1) := by decide +kernel
theorem d_Model_damage_66 : decode prog_11_method_31_code 66 = .ok (.aload_n 0, 1) := by decide +kernel
theorem d_Model_damage_67 : decode prog_11_method_31_code 67 = .ok (.getfield 19, 3) := by decide +kernel
theorem d_Model_damage_70 : decode prog_11_method_31_code 70 = .ok (.iload_n 1, 1) := by decide +kernel
theorem d_Model_damage_71 : decode prog_11_method_31_code 71 = .ok (.iload_n 2, 1) := by decide +kernel
theorem d_Model_damage_72 : decode prog_11_method_31_code 72 = .ok (.iastore, 1) := by decide +kernel
theorem d_Model_damage_73 : decode prog_11_method_31_code 73 = .ok (.iload_n 1, 1) := by decide +kernel
theorem d_Model_damage_74 : decode prog_11_method_31_code 74 = .ok (.aload_n 0, 1) := by decide +kernel
theorem d_Model_damage_75 : decode prog_11_method_31_code 75 = .ok (.getfield 142, 3) := by decide +kernel
theorem d_Model_damage_78 : decode prog_11_method_31_code 78 = .ok (.if_icmp .ne 13, 3) := by decide +kernel
theorem d_Model_damage_81 : decode prog_11_method_31_code 81 = .ok (.aload_n 0, 1) := by decide +kernel
theorem d_Model_damage_82 : decode prog_11_method_31_code 82 = .ok (.dup, 1) := by decide +kernel
theorem d_Model_damage_83 : decode prog_11_method_31_code 83 = .ok (.getfield 142, 3) := by decide +kernel
theorem d_Model_damage_86 : decode prog_11_method_31_code 86 = .ok (.iconst 1, 1) := by decide +kernel
theorem d_Model_damage_87 : decode prog_11_method_31_code 87 = .ok (.iadd, 1) := by decide +kernel
theorem d_Model_damage_88 : decode prog_11_method_31_code 88 = .ok (.putfield 142, 3) := by decide +kernel
theorem d_Model_damage_91 : decode prog_11_method_31_code 91 = .ok (.iload_n 3, 1) := by decide +kernel
theorem d_Model_damage_92 : decode prog_11_method_31_code 92 = .ok (.ireturn, 1) := by decide +kernel
def q_mo_damage (cI : ClassId) (g0 : Nat) (g1 : Nat) (g2 : Nat) (g3 : Nat) (g4 : Nat) (g5 : Nat) (g6 : Nat) (g7 : Nat) (g8 : Nat) (g9 : Nat) (g10 : Nat) (g11 : Nat) (g12 : Nat) (g13 : Nat) (g14 : Nat) (g15 : Nat) (ns : Nat) (ith : Int32) (ico : Int32) (icl : Int32) (irw : Int32) (ibi : Int32) (ien : Int32) (itr : Int32) (ibl : Int32) (ile : Int32) (igr : Int32) (ibk : Int32) (ist : Int32) (ibr : Int32) (str : Nat → Int32) (k : Nat) (b : Int32) : Int32 → va_W → Prop := fun rr ww => rr = (str k) ∧ ww = [(g0, .inr (9, [.ref g1, .ref g2, .ref g3, .ref g4, .ref g5, .ref g6, .ref g7, .ref g8, .ref g9, .ref g10, .ref g11, .ref g12, .ref g13, .ref g14, .ref g15, .int (nI ns), .int 0, .int ico, .int icl, .int irw, .int ibi, .int ien, .int itr, .int ibl, .int ile, .int igr, .int ibk, .int ist, .int ibr])), (g4, .inl (cI, 400, .inl (upd str k b)))]
set_option maxHeartbeats 4000000 in
set_option maxRecDepth 100000 in
theorem c_mo_damage (l : Launch) {D : va_G} {tys : List (ClassId × FieldType)} {cI : ClassId} (hcI : tys[0]? = some (cI, .int)) (g0 : Nat) (g1 : Nat) (g2 : Nat) (g3 : Nat) (g4 : Nat) (g5 : Nat) (g6 : Nat) (g7 : Nat) (g8 : Nat) (g9 : Nat) (g10 : Nat) (g11 : Nat) (g12 : Nat) (g13 : Nat) (g14 : Nat) (g15 : Nat) (ns : Nat) (ith : Int32) (ico : Int32) (icl : Int32) (irw : Int32) (ibi : Int32) (ien : Int32) (itr : Int32) (ibl : Int32) (ile : Int32) (igr : Int32) (ibk : Int32) (ist : Int32) (ibr : Int32) (str : Nat → Int32) (k : Nat) (b : Int32) (hns : ns ≤ 400) (hbb : ¬ b < 0 ∧ ¬ 255 < b) (hk : k < ns) : CsI l D vwCl tys y_Model_damage ws_Model_damage ({ frames := 1, cells := 0, slots := 0, locals := 22 } : Room) [.ref g0, .int (nI k), .int b] [(g0, .inr (9, [.ref g1, .ref g2, .ref g3, .ref g4, .ref g5, .ref g6, .ref g7, .ref g8, .ref g9, .ref g10, .ref g11, .ref g12, .ref g13, .ref g14, .ref g15, .int (nI ns), .int ith, .int ico, .int icl, .int irw, .int ibi, .int ien, .int itr, .int ibl, .int ile, .int igr, .int ibk, .int ist, .int ibr])), (g4, .inl (cI, 400, .inl str))] (q_mo_damage cI g0 g1 g2 g3 g4 g5 g6 g7 g8 g9 g10 g11 g12 g13 g14 g15 ns ith ico icl irw ibi ien itr ibl ile igr ibk ist ibr str k b) 0 0 := by
  intro sz
  refine Met.ofW (cc := prog_11_method_31_code) (maxL := 4) (ret := (some .int)) (by decide) rfl ?_
  intro p e s m args below meth c s₁ B hml hv
  obtain ⟨rfl, hsz, hP, hK, hD0, hN⟩ := hv
  have hx := B.exec
  have hb := B.bytes
  have hr := B.returns
  have hts := atoms_spec (ws := ws_Model_damage) B.pre
  have hown : s.vm.findClass "TileForgeModel" = some m.cls := findClass_of_methodNamed B.named
  have hlocks := B.notSynchronized
  subst hsz
  have hD := hD0.self (sz := s.heap.size)
  generalize hAe : va_A [(g0, .inr (9, [.ref g1, .ref g2, .ref g3, .ref g4, .ref g5, .ref g6, .ref g7, .ref g8, .ref g9, .ref g10, .ref g11, .ref g12, .ref g13, .ref g14, .ref g15, .int (nI ns), .int ith, .int ico, .int icl, .int irw, .int ibi, .int ien, .int itr, .int ibl, .int ile, .int igr, .int ibk, .int ist, .int ibr])), (g4, .inl (cI, 400, .inl str))] s.heap.size = A at hD ⊢
  have hA : ∀ q : Nat, s.heap.size ≤ q → A q := fun q h => by rw [← hAe]; exact Or.inr h
  have hS : va_S A s.heap s.heap [] := va_S.rf
  have hP : va_P D vwCl [(g0, .inr (9, [.ref g1, .ref g2, .ref g3, .ref g4, .ref g5, .ref g6, .ref g7, .ref g8, .ref g9, .ref g10, .ref g11, .ref g12, .ref g13, .ref g14, .ref g15, .int (nI ns), .int ith, .int ico, .int icl, .int irw, .int ibi, .int ien, .int itr, .int ibl, .int ile, .int igr, .int ibk, .int ist, .int ibr])), (g4, .inl (cI, 400, .inl str))] s.heap := hP
  have hl := lv_entry ([.ref g0, .int (nI k), .int b]) (n := 4) (Nat.le_of_ble_eq_true rfl)
  rw [lg_entry_eq]
  generalize (lg_sl ([.ref g0, .int (nI k), .int b]) ++ List.replicate (4 - (lg_sl ([.ref g0, .int (nI k), .int b])).length) Slot.unset).toArray = ls at hl ⊢
  have hl : lv_has ls 4 [(0, .ref g0), (1, .int (nI k)), (2, .int b)] := hl
  refine lv_iload_n hx hb d_Model_damage_0 rfl (lv_at hl 2 rfl) ?_
  refine lv_iconst (v := 0) hx hb d_Model_damage_1 (by decide) ?_
  refine lv_sipush (v := 255) hx hb d_Model_damage_2 (by decide) ?_
  refine cs_Si (As := [.int b, .int 0, .int 255]) (rest := []) (wr := [(g0, .inr (9, [.ref g1, .ref g2, .ref g3, .ref g4, .ref g5, .ref g6, .ref g7, .ref g8, .ref g9, .ref g10, .ref g11, .ref g12, .ref g13, .ref g14, .ref g15, .int (nI ns), .int ith, .int ico, .int icl, .int irw, .int ibi, .int ien, .int itr, .int ibl, .int ile, .int igr, .int ibk, .int ist, .int ibr])), (g4, .inl (cI, 400, .inl str))]) ⟨hx, hb, hml, hown, hts⟩ (c_mo_in l hcI b 0 255) (va_cwS 3 hts (cs_gS mw_350 mw_351 mw_349 mw_341) rfl rfl rfl hd_Model_in ⟨Nat.le_of_ble_eq_true rfl, Nat.le_of_ble_eq_true rfl⟩) hN hK hP hD hS hA [] [0, 1] rfl rfl rfl rfl (by decide) rfl rfl hl.1 (Nat.le_of_ble_eq_true rfl) d_Model_damage_5 ⟨Nat.le_of_ble_eq_true rfl, Nat.le_of_ble_eq_true rfl⟩ (fun r1 w1 H locs hw hP hD hS => ?_)
  obtain ⟨rfl, rfl⟩ := hw
  have hP : va_P D vwCl [(g0, .inr (9, [.ref g1, .ref g2, .ref g3, .ref g4, .ref g5, .ref g6, .ref g7, .ref g8, .ref g9, .ref g10, .ref g11, .ref g12, .ref g13, .ref g14, .ref g15, .int (nI ns), .int ith, .int ico, .int icl, .int irw, .int ibi, .int ien, .int itr, .int ibl, .int ile, .int igr, .int ibk, .int ist, .int ibr])), (g4, .inl (cI, 400, .inl str))] H := hP
  have hD : va_D A [(g0, .inr (9, [.ref g1, .ref g2, .ref g3, .ref g4, .ref g5, .ref g6, .ref g7, .ref g8, .ref g9, .ref g10, .ref g11, .ref g12, .ref g13, .ref g14, .ref g15, .int (nI ns), .int ith, .int ico, .int icl, .int irw, .int ibi, .int ien, .int itr, .int ibl, .int ile, .int igr, .int ibk, .int ist, .int ibr])), (g4, .inl (cI, 400, .inl str))] := hD
  refine lv_if_ne (tgt := 17) hx hb d_Model_damage_8 (by decide) (fun c_8 => ?_) (fun c_8 => ?_)
  · have c_8 := cs_b1 c_8
    refine lv_iload_n hx hb d_Model_damage_17 rfl (lv_at hl 1 rfl) ?_
    refine lv_iconst (v := 0) hx hb d_Model_damage_18 (by decide) ?_
    refine lv_aload_n hx hb d_Model_damage_19 rfl (lv_at hl 0 rfl) ?_
    refine va_get (D := D) (ci := 9) (v := .int (nI ns)) (C := "TileForgeModel") (T := T_Model) (N := 29) hx hb hts (cs_in in_Model) hown hK hP 0 rfl rfl 15 (by decide) (hts _ (cs_m mw_444)) (fun _ h9 => h9) rfl d_Model_damage_20 ?_
    refine cs_Si (As := [.int (nI k), .int 0, .int (nI ns)]) (rest := []) (wr := [(g0, .inr (9, [.ref g1, .ref g2, .ref g3, .ref g4, .ref g5, .ref g6, .ref g7, .ref g8, .ref g9, .ref g10, .ref g11, .ref g12, .ref g13, .ref g14, .ref g15, .int (nI ns), .int ith, .int ico, .int icl, .int irw, .int ibi, .int ien, .int itr, .int ibl, .int ile, .int igr, .int ibk, .int ist, .int ibr])), (g4, .inl (cI, 400, .inl str))]) ⟨hx, hb, hml, hown, hts⟩ (c_mo_in l hcI (nI k) 0 (nI ns)) (va_cwS 3 hts (cs_gS mw_350 mw_351 mw_349 mw_341) rfl rfl rfl hd_Model_in ⟨Nat.le_of_ble_eq_true rfl, Nat.le_of_ble_eq_true rfl⟩) hN hK hP hD hS hA [] [0, 1] rfl rfl rfl rfl (by decide) rfl rfl hl.1 (Nat.le_of_ble_eq_true rfl) d_Model_damage_23 ⟨Nat.le_of_ble_eq_true rfl, Nat.le_of_ble_eq_true rfl⟩ (fun r2 w1 H locs hw hP hD hS => ?_)
    obtain ⟨rfl, rfl⟩ := hw
    have hP : va_P D vwCl [(g0, .inr (9, [.ref g1, .ref g2, .ref g3, .ref g4, .ref g5, .ref g6, .ref g7, .ref g8, .ref g9, .ref g10, .ref g11, .ref g12, .ref g13, .ref g14, .ref g15, .int (nI ns), .int ith, .int ico, .int icl, .int irw, .int ibi, .int ien, .int itr, .int ibl, .int ile, .int igr, .int ibk, .int ist, .int ibr])), (g4, .inl (cI, 400, .inl str))] H := hP
    have hD : va_D A [(g0, .inr (9, [.ref g1, .ref g2, .ref g3, .ref g4, .ref g5, .ref g6, .ref g7, .ref g8, .ref g9, .ref g10, .ref g11, .ref g12, .ref g13, .ref g14, .ref g15, .int (nI ns), .int ith, .int ico, .int icl, .int irw, .int ibi, .int ien, .int itr, .int ibl, .int ile, .int igr, .int ibk, .int ist, .int ibr])), (g4, .inl (cI, 400, .inl str))] := hD
    refine lv_if_eq (tgt := 36) hx hb d_Model_damage_26 (by decide) (fun c_26 => ?_) (fun c_26 => ?_)
    · have c_26 := cs_b0 c_26
      exact absurd (cs_inL (k := k) (a := ns) (by omega) (by omega)) c_26
    · have c_26 := cs_b1 c_26
      refine lv_iload_n hx hb d_Model_damage_29 rfl (lv_at hl 1 rfl) ?_
      refine lv_sipush (v := 400) hx hb d_Model_damage_30 (by decide) ?_
      refine lv_icmp_ne (tgt := 42) hx hb d_Model_damage_33 (by decide) (fun c_33 => ?_) (fun c_33 => ?_)
      · refine lv_aload_n hx hb d_Model_damage_42 rfl (lv_at hl 0 rfl) ?_
        refine lv_iconst (v := 0) hx hb d_Model_damage_43 (by decide) ?_
        refine va_put (D := D) (ci := 9) (v := .int 0) (ty := .int) (C := "TileForgeModel") (T := T_Model) (N := 29) hx hb hts (cs_in in_Model) ty_Model tok_Model nm_Model hown hK hP hD hS 0 rfl rfl 16 (by decide) (hts _ (cs_m mw_343)) (fun _ h9 => h9) rfl (by decide +kernel) rfl rfl (Nat.le_of_ble_eq_true rfl) d_Model_damage_44 (fun H locs hP hD hS => ?_)
        have hP : va_P D vwCl [(g0, .inr (9, [.ref g1, .ref g2, .ref g3, .ref g4, .ref g5, .ref g6, .ref g7, .ref g8, .ref g9, .ref g10, .ref g11, .ref g12, .ref g13, .ref g14, .ref g15, .int (nI ns), .int 0, .int ico, .int icl, .int irw, .int ibi, .int ien, .int itr, .int ibl, .int ile, .int igr, .int ibk, .int ist, .int ibr])), (g4, .inl (cI, 400, .inl str))] H := hP
        have hD : va_D A [(g0, .inr (9, [.ref g1, .ref g2, .ref g3, .ref g4, .ref g5, .ref g6, .ref g7, .ref g8, .ref g9, .ref g10, .ref g11, .ref g12, .ref g13, .ref g14, .ref g15, .int (nI ns), .int 0, .int ico, .int icl, .int irw, .int ibi, .int ien, .int itr, .int ibl, .int ile, .int igr, .int ibk, .int ist, .int ibr])), (g4, .inl (cI, 400, .inl str))] := hD
        refine lv_iload_n hx hb d_Model_damage_47 rfl (lv_at hl 1 rfl) ?_
        refine lv_aload_n hx hb d_Model_damage_48 rfl (lv_at hl 0 rfl) ?_
        refine va_get (D := D) (ci := 9) (v := .int (nI ns)) (C := "TileForgeModel") (T := T_Model) (N := 29) hx hb hts (cs_in in_Model) hown hK hP 0 rfl rfl 15 (by decide) (hts _ (cs_m mw_444)) (fun _ h9 => h9) rfl d_Model_damage_49 ?_
        refine lv_icmp_ge (tgt := 64) hx hb d_Model_damage_52 (by decide) (fun c_52 => ?_) (fun c_52 => ?_)
        · exact absurd ((nI_leI (a := ns) (b := k) (by omega) (by omega)).mp c_52) (by omega)
        · refine lv_aload_n hx hb d_Model_damage_55 rfl (lv_at hl 0 rfl) ?_
          refine va_get (D := D) (ci := 9) (v := .ref g4) (C := "TileForgeModel") (T := T_Model) (N := 29) hx hb hts (cs_in in_Model) hown hK hP 0 rfl rfl 3 (by decide) (hts _ (cs_m mw_422)) (fun _ h9 => h9) rfl d_Model_damage_56 ?_
          refine lv_iload_n hx hb d_Model_damage_59 rfl (lv_at hl 1 rfl) ?_
          refine cs_iald (j := k) hx hb hK hcI hP 1 rfl (rfl) (by omega) (by decide) d_Model_damage_60 ?_
          refine lv_goto (tgt := 65) hx hb d_Model_damage_61 (by decide) ?_
          refine lv_istore_n (lv' := [(3, .int (str k)), (0, .ref g0), (1, .int (nI k)), (2, .int b)]) hx hb d_Model_damage_65 rfl hl (by decide) rfl (fun ls hl => ?_)
          refine lv_aload_n hx hb d_Model_damage_66 rfl (lv_at hl 1 rfl) ?_
          refine va_get (D := D) (ci := 9) (v := .ref g4) (C := "TileForgeModel") (T := T_Model) (N := 29) hx hb hts (cs_in in_Model) hown hK hP 0 rfl rfl 3 (by decide) (hts _ (cs_m mw_422)) (fun _ h9 => h9) rfl d_Model_damage_67 ?_
          refine lv_iload_n hx hb d_Model_damage_70 rfl (lv_at hl 2 rfl) ?_
          refine lv_iload_n hx hb d_Model_damage_71 rfl (lv_at hl 3 rfl) ?_
          refine cs_iast (j := k) hx hb hK hcI hP hD hS 1 rfl (rfl) (by omega) (by decide) d_Model_damage_72 (fun H locs hP hD hS => ?_)
          have hP : va_P D vwCl [(g0, .inr (9, [.ref g1, .ref g2, .ref g3, .ref g4, .ref g5, .ref g6, .ref g7, .ref g8, .ref g9, .ref g10, .ref g11, .ref g12, .ref g13, .ref g14, .ref g15, .int (nI ns), .int 0, .int ico, .int icl, .int irw, .int ibi, .int ien, .int itr, .int ibl, .int ile, .int igr, .int ibk, .int ist, .int ibr])), (g4, .inl (cI, 400, .inl (upd str k b)))] H := hP
          have hD : va_D A [(g0, .inr (9, [.ref g1, .ref g2, .ref g3, .ref g4, .ref g5, .ref g6, .ref g7, .ref g8, .ref g9, .ref g10, .ref g11, .ref g12, .ref g13, .ref g14, .ref g15, .int (nI ns), .int 0, .int ico, .int icl, .int irw, .int ibi, .int ien, .int itr, .int ibl, .int ile, .int igr, .int ibk, .int ist, .int ibr])), (g4, .inl (cI, 400, .inl (upd str k b)))] := hD
          refine lv_iload_n hx hb d_Model_damage_73 rfl (lv_at hl 2 rfl) ?_
          refine lv_aload_n hx hb d_Model_damage_74 rfl (lv_at hl 1 rfl) ?_
          refine va_get (D := D) (ci := 9) (v := .int (nI ns)) (C := "TileForgeModel") (T := T_Model) (N := 29) hx hb hts (cs_in in_Model) hown hK hP 0 rfl rfl 15 (by decide) (hts _ (cs_m mw_444)) (fun _ h9 => h9) rfl d_Model_damage_75 ?_
          refine lv_icmp_ne (tgt := 91) hx hb d_Model_damage_78 (by decide) (fun c_78 => ?_) (fun c_78 => ?_)
          · refine lv_iload_n hx hb d_Model_damage_91 rfl (lv_at hl 0 rfl) ?_
            exact W.iret (v := (str k)) hx hb hr (fun t ht hW => ⟨⟨(str k), [(g0, .inr (9, [.ref g1, .ref g2, .ref g3, .ref g4, .ref g5, .ref g6, .ref g7, .ref g8, .ref g9, .ref g10, .ref g11, .ref g12, .ref g13, .ref g14, .ref g15, .int (nI ns), .int 0, .int ico, .int icl, .int irw, .int ibi, .int ien, .int itr, .int ibl, .int ile, .int igr, .int ibk, .int ist, .int ibr])), (g4, .inl (cI, 400, .inl (upd str k b)))], rfl, ⟨(rfl), (rfl)⟩, by rw [ht]; exact hP, va_K.moved hW.alike hK, hD⟩, hS.F ht⟩) hS.2.2 d_Model_damage_92
          · exact absurd ((nI_eq (a := k) (b := ns) (by omega) (by omega)).mp c_78) (by omega)
      · exact absurd ((nI_eq (a := k) (b := 400) (by omega) (by decide)).mp c_33) (by omega)
  · have c_8 := cs_b0 c_8
    exact absurd hbb c_8
def q_mo_damageE (cI : ClassId) (g0 : Nat) (g1 : Nat) (g2 : Nat) (g3 : Nat) (g4 : Nat) (g5 : Nat) (g6 : Nat) (g7 : Nat) (g8 : Nat) (g9 : Nat) (g10 : Nat) (g11 : Nat) (g12 : Nat) (g13 : Nat) (g14 : Nat) (g15 : Nat) (ns : Nat) (ith : Int32) (ico : Int32) (icl : Int32) (irw : Int32) (ibi : Int32) (ien : Int32) (itr : Int32) (ibl : Int32) (ile : Int32) (igr : Int32) (ibk : Int32) (ist : Int32) (ibr : Int32) (str : Nat → Int32) (b : Int32) : Int32 → va_W → Prop := fun rr ww => rr = ((-1)) ∧ ww = [(g0, .inr (9, [.ref g1, .ref g2, .ref g3, .ref g4, .ref g5, .ref g6, .ref g7, .ref g8, .ref g9, .ref g10, .ref g11, .ref g12, .ref g13, .ref g14, .ref g15, .int (nI (ns + 1)), .int 0, .int ico, .int icl, .int irw, .int ibi, .int ien, .int itr, .int ibl, .int ile, .int igr, .int ibk, .int ist, .int ibr])), (g4, .inl (cI, 400, .inl (upd str ns b)))]
set_option maxHeartbeats 4000000 in
set_option maxRecDepth 100000 in
theorem c_mo_damageE (l : Launch) {D : va_G} {tys : List (ClassId × FieldType)} {cI : ClassId} (hcI : tys[0]? = some (cI, .int)) (g0 : Nat) (g1 : Nat) (g2 : Nat) (g3 : Nat) (g4 : Nat) (g5 : Nat) (g6 : Nat) (g7 : Nat) (g8 : Nat) (g9 : Nat) (g10 : Nat) (g11 : Nat) (g12 : Nat) (g13 : Nat) (g14 : Nat) (g15 : Nat) (ns : Nat) (ith : Int32) (ico : Int32) (icl : Int32) (irw : Int32) (ibi : Int32) (ien : Int32) (itr : Int32) (ibl : Int32) (ile : Int32) (igr : Int32) (ibk : Int32) (ist : Int32) (ibr : Int32) (str : Nat → Int32) (b : Int32) (hns : ns < 400) (hbb : ¬ b < 0 ∧ ¬ 255 < b) : CsI l D vwCl tys y_Model_damage ws_Model_damage ({ frames := 1, cells := 0, slots := 0, locals := 22 } : Room) [.ref g0, .int (nI ns), .int b] [(g0, .inr (9, [.ref g1, .ref g2, .ref g3, .ref g4, .ref g5, .ref g6, .ref g7, .ref g8, .ref g9, .ref g10, .ref g11, .ref g12, .ref g13, .ref g14, .ref g15, .int (nI ns), .int ith, .int ico, .int icl, .int irw, .int ibi, .int ien, .int itr, .int ibl, .int ile, .int igr, .int ibk, .int ist, .int ibr])), (g4, .inl (cI, 400, .inl str))] (q_mo_damageE cI g0 g1 g2 g3 g4 g5 g6 g7 g8 g9 g10 g11 g12 g13 g14 g15 ns ith ico icl irw ibi ien itr ibl ile igr ibk ist ibr str b) 0 0 := by
  intro sz
  refine Met.ofW (cc := prog_11_method_31_code) (maxL := 4) (ret := (some .int)) (by decide) rfl ?_
  intro p e s m args below meth c s₁ B hml hv
  obtain ⟨rfl, hsz, hP, hK, hD0, hN⟩ := hv
  have hx := B.exec
  have hb := B.bytes
  have hr := B.returns
  have hts := atoms_spec (ws := ws_Model_damage) B.pre
  have hown : s.vm.findClass "TileForgeModel" = some m.cls := findClass_of_methodNamed B.named
  have hlocks := B.notSynchronized
  subst hsz
  have hD := hD0.self (sz := s.heap.size)
  generalize hAe : va_A [(g0, .inr (9, [.ref g1, .ref g2, .ref g3, .ref g4, .ref g5, .ref g6, .ref g7, .ref g8, .ref g9, .ref g10, .ref g11, .ref g12, .ref g13, .ref g14, .ref g15, .int (nI ns), .int ith, .int ico, .int icl, .int irw, .int ibi, .int ien, .int itr, .int ibl, .int ile, .int igr, .int ibk, .int ist, .int ibr])), (g4, .inl (cI, 400, .inl str))] s.heap.size = A at hD ⊢
  have hA : ∀ q : Nat, s.heap.size ≤ q → A q := fun q h => by rw [← hAe]; exact Or.inr h
  have hS : va_S A s.heap s.heap [] := va_S.rf
  have hP : va_P D vwCl [(g0, .inr (9, [.ref g1, .ref g2, .ref g3, .ref g4, .ref g5, .ref g6, .ref g7, .ref g8, .ref g9, .ref g10, .ref g11, .ref g12, .ref g13, .ref g14, .ref g15, .int (nI ns), .int ith, .int ico, .int icl, .int irw, .int ibi, .int ien, .int itr, .int ibl, .int ile, .int igr, .int ibk, .int ist, .int ibr])), (g4, .inl (cI, 400, .inl str))] s.heap := hP
  have hl := lv_entry ([.ref g0, .int (nI ns), .int b]) (n := 4) (Nat.le_of_ble_eq_true rfl)
  rw [lg_entry_eq]
  generalize (lg_sl ([.ref g0, .int (nI ns), .int b]) ++ List.replicate (4 - (lg_sl ([.ref g0, .int (nI ns), .int b])).length) Slot.unset).toArray = ls at hl ⊢
  have hl : lv_has ls 4 [(0, .ref g0), (1, .int (nI ns)), (2, .int b)] := hl
  refine lv_iload_n hx hb d_Model_damage_0 rfl (lv_at hl 2 rfl) ?_
  refine lv_iconst (v := 0) hx hb d_Model_damage_1 (by decide) ?_
  refine lv_sipush (v := 255) hx hb d_Model_damage_2 (by decide) ?_
  refine cs_Si (As := [.int b, .int 0, .int 255]) (rest := []) (wr := [(g0, .inr (9, [.ref g1, .ref g2, .ref g3, .ref g4, .ref g5, .ref g6, .ref g7, .ref g8, .ref g9, .ref g10, .ref g11, .ref g12, .ref g13, .ref g14, .ref g15, .int (nI ns), .int ith, .int ico, .int icl, .int irw, .int ibi, .int ien, .int itr, .int ibl, .int ile, .int igr, .int ibk, .int ist, .int ibr])), (g4, .inl (cI, 400, .inl str))]) ⟨hx, hb, hml, hown, hts⟩ (c_mo_in l hcI b 0 255) (va_cwS 3 hts (cs_gS mw_350 mw_351 mw_349 mw_341) rfl rfl rfl hd_Model_in ⟨Nat.le_of_ble_eq_true rfl, Nat.le_of_ble_eq_true rfl⟩) hN hK hP hD hS hA [] [0, 1] rfl rfl rfl rfl (by decide) rfl rfl hl.1 (Nat.le_of_ble_eq_true rfl) d_Model_damage_5 ⟨Nat.le_of_ble_eq_true rfl, Nat.le_of_ble_eq_true rfl⟩ (fun r1 w1 H locs hw hP hD hS => ?_)
  obtain ⟨rfl, rfl⟩ := hw
  have hP : va_P D vwCl [(g0, .inr (9, [.ref g1, .ref g2, .ref g3, .ref g4, .ref g5, .ref g6, .ref g7, .ref g8, .ref g9, .ref g10, .ref g11, .ref g12, .ref g13, .ref g14, .ref g15, .int (nI ns), .int ith, .int ico, .int icl, .int irw, .int ibi, .int ien, .int itr, .int ibl, .int ile, .int igr, .int ibk, .int ist, .int ibr])), (g4, .inl (cI, 400, .inl str))] H := hP
  have hD : va_D A [(g0, .inr (9, [.ref g1, .ref g2, .ref g3, .ref g4, .ref g5, .ref g6, .ref g7, .ref g8, .ref g9, .ref g10, .ref g11, .ref g12, .ref g13, .ref g14, .ref g15, .int (nI ns), .int ith, .int ico, .int icl, .int irw, .int ibi, .int ien, .int itr, .int ibl, .int ile, .int igr, .int ibk, .int ist, .int ibr])), (g4, .inl (cI, 400, .inl str))] := hD
  refine lv_if_ne (tgt := 17) hx hb d_Model_damage_8 (by decide) (fun c_8 => ?_) (fun c_8 => ?_)
  · have c_8 := cs_b1 c_8
    refine lv_iload_n hx hb d_Model_damage_17 rfl (lv_at hl 1 rfl) ?_
    refine lv_iconst (v := 0) hx hb d_Model_damage_18 (by decide) ?_
    refine lv_aload_n hx hb d_Model_damage_19 rfl (lv_at hl 0 rfl) ?_
    refine va_get (D := D) (ci := 9) (v := .int (nI ns)) (C := "TileForgeModel") (T := T_Model) (N := 29) hx hb hts (cs_in in_Model) hown hK hP 0 rfl rfl 15 (by decide) (hts _ (cs_m mw_444)) (fun _ h9 => h9) rfl d_Model_damage_20 ?_
    refine cs_Si (As := [.int (nI ns), .int 0, .int (nI ns)]) (rest := []) (wr := [(g0, .inr (9, [.ref g1, .ref g2, .ref g3, .ref g4, .ref g5, .ref g6, .ref g7, .ref g8, .ref g9, .ref g10, .ref g11, .ref g12, .ref g13, .ref g14, .ref g15, .int (nI ns), .int ith, .int ico, .int icl, .int irw, .int ibi, .int ien, .int itr, .int ibl, .int ile, .int igr, .int ibk, .int ist, .int ibr])), (g4, .inl (cI, 400, .inl str))]) ⟨hx, hb, hml, hown, hts⟩ (c_mo_in l hcI (nI ns) 0 (nI ns)) (va_cwS 3 hts (cs_gS mw_350 mw_351 mw_349 mw_341) rfl rfl rfl hd_Model_in ⟨Nat.le_of_ble_eq_true rfl, Nat.le_of_ble_eq_true rfl⟩) hN hK hP hD hS hA [] [0, 1] rfl rfl rfl rfl (by decide) rfl rfl hl.1 (Nat.le_of_ble_eq_true rfl) d_Model_damage_23 ⟨Nat.le_of_ble_eq_true rfl, Nat.le_of_ble_eq_true rfl⟩ (fun r2 w1 H locs hw hP hD hS => ?_)
    obtain ⟨rfl, rfl⟩ := hw
    have hP : va_P D vwCl [(g0, .inr (9, [.ref g1, .ref g2, .ref g3, .ref g4, .ref g5, .ref g6, .ref g7, .ref g8, .ref g9, .ref g10, .ref g11, .ref g12, .ref g13, .ref g14, .ref g15, .int (nI ns), .int ith, .int ico, .int icl, .int irw, .int ibi, .int ien, .int itr, .int ibl, .int ile, .int igr, .int ibk, .int ist, .int ibr])), (g4, .inl (cI, 400, .inl str))] H := hP
    have hD : va_D A [(g0, .inr (9, [.ref g1, .ref g2, .ref g3, .ref g4, .ref g5, .ref g6, .ref g7, .ref g8, .ref g9, .ref g10, .ref g11, .ref g12, .ref g13, .ref g14, .ref g15, .int (nI ns), .int ith, .int ico, .int icl, .int irw, .int ibi, .int ien, .int itr, .int ibl, .int ile, .int igr, .int ibk, .int ist, .int ibr])), (g4, .inl (cI, 400, .inl str))] := hD
    refine lv_if_eq (tgt := 36) hx hb d_Model_damage_26 (by decide) (fun c_26 => ?_) (fun c_26 => ?_)
    · have c_26 := cs_b0 c_26
      exact absurd (cs_inL (k := ns) (a := ns) (by omega) (by omega)) c_26
    · have c_26 := cs_b1 c_26
      refine lv_iload_n hx hb d_Model_damage_29 rfl (lv_at hl 1 rfl) ?_
      refine lv_sipush (v := 400) hx hb d_Model_damage_30 (by decide) ?_
      refine lv_icmp_ne (tgt := 42) hx hb d_Model_damage_33 (by decide) (fun c_33 => ?_) (fun c_33 => ?_)
      · refine lv_aload_n hx hb d_Model_damage_42 rfl (lv_at hl 0 rfl) ?_
        refine lv_iconst (v := 0) hx hb d_Model_damage_43 (by decide) ?_
        refine va_put (D := D) (ci := 9) (v := .int 0) (ty := .int) (C := "TileForgeModel") (T := T_Model) (N := 29) hx hb hts (cs_in in_Model) ty_Model tok_Model nm_Model hown hK hP hD hS 0 rfl rfl 16 (by decide) (hts _ (cs_m mw_343)) (fun _ h9 => h9) rfl (by decide +kernel) rfl rfl (Nat.le_of_ble_eq_true rfl) d_Model_damage_44 (fun H locs hP hD hS => ?_)
        have hP : va_P D vwCl [(g0, .inr (9, [.ref g1, .ref g2, .ref g3, .ref g4, .ref g5, .ref g6, .ref g7, .ref g8, .ref g9, .ref g10, .ref g11, .ref g12, .ref g13, .ref g14, .ref g15, .int (nI ns), .int 0, .int ico, .int icl, .int irw, .int ibi, .int ien, .int itr, .int ibl, .int ile, .int igr, .int ibk, .int ist, .int ibr])), (g4, .inl (cI, 400, .inl str))] H := hP
        have hD : va_D A [(g0, .inr (9, [.ref g1, .ref g2, .ref g3, .ref g4, .ref g5, .ref g6, .ref g7, .ref g8, .ref g9, .ref g10, .ref g11, .ref g12, .ref g13, .ref g14, .ref g15, .int (nI ns), .int 0, .int ico, .int icl, .int irw, .int ibi, .int ien, .int itr, .int ibl, .int ile, .int igr, .int ibk, .int ist, .int ibr])), (g4, .inl (cI, 400, .inl str))] := hD
        refine lv_iload_n hx hb d_Model_damage_47 rfl (lv_at hl 1 rfl) ?_
        refine lv_aload_n hx hb d_Model_damage_48 rfl (lv_at hl 0 rfl) ?_
        refine va_get (D := D) (ci := 9) (v := .int (nI ns)) (C := "TileForgeModel") (T := T_Model) (N := 29) hx hb hts (cs_in in_Model) hown hK hP 0 rfl rfl 15 (by decide) (hts _ (cs_m mw_444)) (fun _ h9 => h9) rfl d_Model_damage_49 ?_
        refine lv_icmp_ge (tgt := 64) hx hb d_Model_damage_52 (by decide) (fun c_52 => ?_) (fun c_52 => ?_)
        · refine lv_iconst (v := (-1)) hx hb d_Model_damage_64 (by decide) ?_
          refine lv_istore_n (lv' := [(3, .int (-1)), (0, .ref g0), (1, .int (nI ns)), (2, .int b)]) hx hb d_Model_damage_65 rfl hl (by decide) rfl (fun ls hl => ?_)
          refine lv_aload_n hx hb d_Model_damage_66 rfl (lv_at hl 1 rfl) ?_
          refine va_get (D := D) (ci := 9) (v := .ref g4) (C := "TileForgeModel") (T := T_Model) (N := 29) hx hb hts (cs_in in_Model) hown hK hP 0 rfl rfl 3 (by decide) (hts _ (cs_m mw_422)) (fun _ h9 => h9) rfl d_Model_damage_67 ?_
          refine lv_iload_n hx hb d_Model_damage_70 rfl (lv_at hl 2 rfl) ?_
          refine lv_iload_n hx hb d_Model_damage_71 rfl (lv_at hl 3 rfl) ?_
          refine cs_iast (j := ns) hx hb hK hcI hP hD hS 1 rfl (rfl) (by omega) (by decide) d_Model_damage_72 (fun H locs hP hD hS => ?_)
          have hP : va_P D vwCl [(g0, .inr (9, [.ref g1, .ref g2, .ref g3, .ref g4, .ref g5, .ref g6, .ref g7, .ref g8, .ref g9, .ref g10, .ref g11, .ref g12, .ref g13, .ref g14, .ref g15, .int (nI ns), .int 0, .int ico, .int icl, .int irw, .int ibi, .int ien, .int itr, .int ibl, .int ile, .int igr, .int ibk, .int ist, .int ibr])), (g4, .inl (cI, 400, .inl (upd str ns b)))] H := hP
          have hD : va_D A [(g0, .inr (9, [.ref g1, .ref g2, .ref g3, .ref g4, .ref g5, .ref g6, .ref g7, .ref g8, .ref g9, .ref g10, .ref g11, .ref g12, .ref g13, .ref g14, .ref g15, .int (nI ns), .int 0, .int ico, .int icl, .int irw, .int ibi, .int ien, .int itr, .int ibl, .int ile, .int igr, .int ibk, .int ist, .int ibr])), (g4, .inl (cI, 400, .inl (upd str ns b)))] := hD
          refine lv_iload_n hx hb d_Model_damage_73 rfl (lv_at hl 2 rfl) ?_
          refine lv_aload_n hx hb d_Model_damage_74 rfl (lv_at hl 1 rfl) ?_
          refine va_get (D := D) (ci := 9) (v := .int (nI ns)) (C := "TileForgeModel") (T := T_Model) (N := 29) hx hb hts (cs_in in_Model) hown hK hP 0 rfl rfl 15 (by decide) (hts _ (cs_m mw_444)) (fun _ h9 => h9) rfl d_Model_damage_75 ?_
          refine lv_icmp_ne (tgt := 91) hx hb d_Model_damage_78 (by decide) (fun c_78 => ?_) (fun c_78 => ?_)
          · exact absurd (rfl : nI ns = nI ns) c_78
          · refine lv_aload_n hx hb d_Model_damage_81 rfl (lv_at hl 1 rfl) ?_
            refine lv_dup hx hb d_Model_damage_82 rfl ?_
            refine va_get (D := D) (ci := 9) (v := .int (nI ns)) (C := "TileForgeModel") (T := T_Model) (N := 29) hx hb hts (cs_in in_Model) hown hK hP 0 rfl rfl 15 (by decide) (hts _ (cs_m mw_444)) (fun _ h9 => h9) rfl d_Model_damage_83 ?_
            refine lv_iconst (v := 1) hx hb d_Model_damage_86 (by decide) ?_
            refine lv_iadd hx hb d_Model_damage_87 ?_
            refine cs_top (y := nI (ns + 1)) (nI_1 ns) ?_
            refine va_put (D := D) (ci := 9) (v := .int (nI (ns + 1))) (ty := .int) (C := "TileForgeModel") (T := T_Model) (N := 29) hx hb hts (cs_in in_Model) ty_Model tok_Model nm_Model hown hK hP hD hS 0 rfl rfl 15 (by decide) (hts _ (cs_m mw_444)) (fun _ h9 => h9) rfl (by decide +kernel) rfl rfl (Nat.le_of_ble_eq_true rfl) d_Model_damage_88 (fun H locs hP hD hS => ?_)
            have hP : va_P D vwCl [(g0, .inr (9, [.ref g1, .ref g2, .ref g3, .ref g4, .ref g5, .ref g6, .ref g7, .ref g8, .ref g9, .ref g10, .ref g11, .ref g12, .ref g13, .ref g14, .ref g15, .int (nI (ns + 1)), .int 0, .int ico, .int icl, .int irw, .int ibi, .int ien, .int itr, .int ibl, .int ile, .int igr, .int ibk, .int ist, .int ibr])), (g4, .inl (cI, 400, .inl (upd str ns b)))] H := hP
            have hD : va_D A [(g0, .inr (9, [.ref g1, .ref g2, .ref g3, .ref g4, .ref g5, .ref g6, .ref g7, .ref g8, .ref g9, .ref g10, .ref g11, .ref g12, .ref g13, .ref g14, .ref g15, .int (nI (ns + 1)), .int 0, .int ico, .int icl, .int irw, .int ibi, .int ien, .int itr, .int ibl, .int ile, .int igr, .int ibk, .int ist, .int ibr])), (g4, .inl (cI, 400, .inl (upd str ns b)))] := hD
            refine lv_iload_n hx hb d_Model_damage_91 rfl (lv_at hl 0 rfl) ?_
            exact W.iret (v := (-1)) hx hb hr (fun t ht hW => ⟨⟨(-1), [(g0, .inr (9, [.ref g1, .ref g2, .ref g3, .ref g4, .ref g5, .ref g6, .ref g7, .ref g8, .ref g9, .ref g10, .ref g11, .ref g12, .ref g13, .ref g14, .ref g15, .int (nI (ns + 1)), .int 0, .int ico, .int icl, .int irw, .int ibi, .int ien, .int itr, .int ibl, .int ile, .int igr, .int ibk, .int ist, .int ibr])), (g4, .inl (cI, 400, .inl (upd str ns b)))], rfl, ⟨(rfl), (rfl)⟩, by rw [ht]; exact hP, va_K.moved hW.alike hK, hD⟩, hS.F ht⟩) hS.2.2 d_Model_damage_92
        · exact absurd (show nI ns ≤ nI ns from Int32.le_refl _) c_52
      · exact absurd ((nI_eq (a := ns) (b := 400) (by omega) (by decide)).mp c_33) (by omega)
  · have c_8 := cs_b0 c_8
    exact absurd hbb c_8
def q_mo_damageB (cI : ClassId) (g0 : Nat) (g1 : Nat) (g2 : Nat) (g3 : Nat) (g4 : Nat) (g5 : Nat) (g6 : Nat) (g7 : Nat) (g8 : Nat) (g9 : Nat) (g10 : Nat) (g11 : Nat) (g12 : Nat) (g13 : Nat) (g14 : Nat) (g15 : Nat) (isz : Int32) (ith : Int32) (ico : Int32) (icl : Int32) (irw : Int32) (ibi : Int32) (ien : Int32) (itr : Int32) (ibl : Int32) (ile : Int32) (igr : Int32) (ibk : Int32) (ist : Int32) (ibr : Int32) (k : Int32) (b : Int32) : Int32 → va_W → Prop := fun rr ww => rr = (0) ∧ ww = [(g0, .inr (9, [.ref g1, .ref g2, .ref g3, .ref g4, .ref g5, .ref g6, .ref g7, .ref g8, .ref g9, .ref g10, .ref g11, .ref g12, .ref g13, .ref g14, .ref g15, .int isz, .int 1, .int ico, .int icl, .int irw, .int ibi, .int ien, .int itr, .int ibl, .int ile, .int igr, .int ibk, .int ist, .int ibr]))]
set_option maxHeartbeats 4000000 in
set_option maxRecDepth 100000 in
theorem c_mo_damageB (l : Launch) {D : va_G} {tys : List (ClassId × FieldType)} {cI : ClassId} (hcI : tys[0]? = some (cI, .int)) (g0 : Nat) (g1 : Nat) (g2 : Nat) (g3 : Nat) (g4 : Nat) (g5 : Nat) (g6 : Nat) (g7 : Nat) (g8 : Nat) (g9 : Nat) (g10 : Nat) (g11 : Nat) (g12 : Nat) (g13 : Nat) (g14 : Nat) (g15 : Nat) (isz : Int32) (ith : Int32) (ico : Int32) (icl : Int32) (irw : Int32) (ibi : Int32) (ien : Int32) (itr : Int32) (ibl : Int32) (ile : Int32) (igr : Int32) (ibk : Int32) (ist : Int32) (ibr : Int32) (k : Int32) (b : Int32) (hbb : ¬ (¬ b < 0 ∧ ¬ 255 < b)) : CsI l D vwCl tys y_Model_damage ws_Model_damage ({ frames := 1, cells := 0, slots := 0, locals := 22 } : Room) [.ref g0, .int k, .int b] [(g0, .inr (9, [.ref g1, .ref g2, .ref g3, .ref g4, .ref g5, .ref g6, .ref g7, .ref g8, .ref g9, .ref g10, .ref g11, .ref g12, .ref g13, .ref g14, .ref g15, .int isz, .int ith, .int ico, .int icl, .int irw, .int ibi, .int ien, .int itr, .int ibl, .int ile, .int igr, .int ibk, .int ist, .int ibr]))] (q_mo_damageB cI g0 g1 g2 g3 g4 g5 g6 g7 g8 g9 g10 g11 g12 g13 g14 g15 isz ith ico icl irw ibi ien itr ibl ile igr ibk ist ibr k b) 0 0 := by
  intro sz
  refine Met.ofW (cc := prog_11_method_31_code) (maxL := 4) (ret := (some .int)) (by decide) rfl ?_
  intro p e s m args below meth c s₁ B hml hv
  obtain ⟨rfl, hsz, hP, hK, hD0, hN⟩ := hv
  have hx := B.exec
  have hb := B.bytes
  have hr := B.returns
  have hts := atoms_spec (ws := ws_Model_damage) B.pre
  have hown : s.vm.findClass "TileForgeModel" = some m.cls := findClass_of_methodNamed B.named
  have hlocks := B.notSynchronized
  subst hsz
  have hD := hD0.self (sz := s.heap.size)
  generalize hAe : va_A [(g0, .inr (9, [.ref g1, .ref g2, .ref g3, .ref g4, .ref g5, .ref g6, .ref g7, .ref g8, .ref g9, .ref g10, .ref g11, .ref g12, .ref g13, .ref g14, .ref g15, .int isz, .int ith, .int ico, .int icl, .int irw, .int ibi, .int ien, .int itr, .int ibl, .int ile, .int igr, .int ibk, .int ist, .int ibr]))] s.heap.size = A at hD ⊢
  have hA : ∀ q : Nat, s.heap.size ≤ q → A q := fun q h => by rw [← hAe]; exact Or.inr h
  have hS : va_S A s.heap s.heap [] := va_S.rf
  have hP : va_P D vwCl [(g0, .inr (9, [.ref g1, .ref g2, .ref g3, .ref g4, .ref g5, .ref g6, .ref g7, .ref g8, .ref g9, .ref g10, .ref g11, .ref g12, .ref g13, .ref g14, .ref g15, .int isz, .int ith, .int ico, .int icl, .int irw, .int ibi, .int ien, .int itr, .int ibl, .int ile, .int igr, .int ibk, .int ist, .int ibr]))] s.heap := hP
  have hl := lv_entry ([.ref g0, .int k, .int b]) (n := 4) (Nat.le_of_ble_eq_true rfl)
  rw [lg_entry_eq]
  generalize (lg_sl ([.ref g0, .int k, .int b]) ++ List.replicate (4 - (lg_sl ([.ref g0, .int k, .int b])).length) Slot.unset).toArray = ls at hl ⊢
  have hl : lv_has ls 4 [(0, .ref g0), (1, .int k), (2, .int b)] := hl
  refine lv_iload_n hx hb d_Model_damage_0 rfl (lv_at hl 2 rfl) ?_
  refine lv_iconst (v := 0) hx hb d_Model_damage_1 (by decide) ?_
  refine lv_sipush (v := 255) hx hb d_Model_damage_2 (by decide) ?_
  refine cs_Si (As := [.int b, .int 0, .int 255]) (rest := []) (wr := [(g0, .inr (9, [.ref g1, .ref g2, .ref g3, .ref g4, .ref g5, .ref g6, .ref g7, .ref g8, .ref g9, .ref g10, .ref g11, .ref g12, .ref g13, .ref g14, .ref g15, .int isz, .int ith, .int ico, .int icl, .int irw, .int ibi, .int ien, .int itr, .int ibl, .int ile, .int igr, .int ibk, .int ist, .int ibr]))]) ⟨hx, hb, hml, hown, hts⟩ (c_mo_in l hcI b 0 255) (va_cwS 3 hts (cs_gS mw_350 mw_351 mw_349 mw_341) rfl rfl rfl hd_Model_in ⟨Nat.le_of_ble_eq_true rfl, Nat.le_of_ble_eq_true rfl⟩) hN hK hP hD hS hA [] [0] rfl rfl rfl rfl (by decide) rfl rfl hl.1 (Nat.le_of_ble_eq_true rfl) d_Model_damage_5 ⟨Nat.le_of_ble_eq_true rfl, Nat.le_of_ble_eq_true rfl⟩ (fun r1 w1 H locs hw hP hD hS => ?_)
  obtain ⟨rfl, rfl⟩ := hw
  have hP : va_P D vwCl [(g0, .inr (9, [.ref g1, .ref g2, .ref g3, .ref g4, .ref g5, .ref g6, .ref g7, .ref g8, .ref g9, .ref g10, .ref g11, .ref g12, .ref g13, .ref g14, .ref g15, .int isz, .int ith, .int ico, .int icl, .int irw, .int ibi, .int ien, .int itr, .int ibl, .int ile, .int igr, .int ibk, .int ist, .int ibr]))] H := hP
  have hD : va_D A [(g0, .inr (9, [.ref g1, .ref g2, .ref g3, .ref g4, .ref g5, .ref g6, .ref g7, .ref g8, .ref g9, .ref g10, .ref g11, .ref g12, .ref g13, .ref g14, .ref g15, .int isz, .int ith, .int ico, .int icl, .int irw, .int ibi, .int ien, .int itr, .int ibl, .int ile, .int igr, .int ibk, .int ist, .int ibr]))] := hD
  refine lv_if_ne (tgt := 17) hx hb d_Model_damage_8 (by decide) (fun c_8 => ?_) (fun c_8 => ?_)
  · have c_8 := cs_b1 c_8
    exact absurd c_8 hbb
  · have c_8 := cs_b0 c_8
    refine lv_aload_n hx hb d_Model_damage_11 rfl (lv_at hl 0 rfl) ?_
    refine lv_iconst (v := 1) hx hb d_Model_damage_12 (by decide) ?_
    refine cs_Vi (As := [.int 1]) (rest := []) (wr := []) ⟨hx, hb, hml, hown, hts⟩ (c_mo_fail l hcI g0 g1 g2 g3 g4 g5 g6 g7 g8 g9 g10 g11 g12 g13 g14 g15 isz ith ico icl irw ibi ien itr ibl ile igr ibk ist ibr 1) (cwV 1 hts (cs_gV mw_435 mw_436 mw_437 mw_349 mw_342) rfl rfl rfl ⟨rfl, hd_Model_fail⟩ ⟨Nat.le_of_ble_eq_true rfl, Nat.le_of_ble_eq_true rfl⟩) hN hK hP hD hS hA [0] [] rfl rfl rfl rfl (by decide) (ci := 9) rfl rfl rfl rfl rfl hl.1 (Nat.le_of_ble_eq_true rfl) d_Model_damage_13 ⟨Nat.le_of_ble_eq_true rfl, Nat.le_of_ble_eq_true rfl⟩ (fun r2 w1 H locs hw hP hD hS => ?_)
    obtain ⟨rfl, rfl⟩ := hw
    have hP : va_P D vwCl [(g0, .inr (9, [.ref g1, .ref g2, .ref g3, .ref g4, .ref g5, .ref g6, .ref g7, .ref g8, .ref g9, .ref g10, .ref g11, .ref g12, .ref g13, .ref g14, .ref g15, .int isz, .int 1, .int ico, .int icl, .int irw, .int ibi, .int ien, .int itr, .int ibl, .int ile, .int igr, .int ibk, .int ist, .int ibr]))] H := hP
    have hD : va_D A [(g0, .inr (9, [.ref g1, .ref g2, .ref g3, .ref g4, .ref g5, .ref g6, .ref g7, .ref g8, .ref g9, .ref g10, .ref g11, .ref g12, .ref g13, .ref g14, .ref g15, .int isz, .int 1, .int ico, .int icl, .int irw, .int ibi, .int ien, .int itr, .int ibl, .int ile, .int igr, .int ibk, .int ist, .int ibr]))] := hD
    exact W.iret (v := 0) hx hb hr (fun t ht hW => ⟨⟨0, [(g0, .inr (9, [.ref g1, .ref g2, .ref g3, .ref g4, .ref g5, .ref g6, .ref g7, .ref g8, .ref g9, .ref g10, .ref g11, .ref g12, .ref g13, .ref g14, .ref g15, .int isz, .int 1, .int ico, .int icl, .int irw, .int ibi, .int ien, .int itr, .int ibl, .int ile, .int igr, .int ibk, .int ist, .int ibr]))], rfl, ⟨(rfl), (rfl)⟩, by rw [ht]; exact hP, va_K.moved hW.alike hK, hD⟩, hS.F ht⟩) hS.2.2 d_Model_damage_16
def q_mo_damageC (cI : ClassId) (g0 : Nat) (g1 : Nat) (g2 : Nat) (g3 : Nat) (g4 : Nat) (g5 : Nat) (g6 : Nat) (g7 : Nat) (g8 : Nat) (g9 : Nat) (g10 : Nat) (g11 : Nat) (g12 : Nat) (g13 : Nat) (g14 : Nat) (g15 : Nat) (ns : Nat) (ith : Int32) (ico : Int32) (icl : Int32) (irw : Int32) (ibi : Int32) (ien : Int32) (itr : Int32) (ibl : Int32) (ile : Int32) (igr : Int32) (ibk : Int32) (ist : Int32) (ibr : Int32) (k : Int32) (b : Int32) : Int32 → va_W → Prop := fun rr ww => rr = (0) ∧ ww = [(g0, .inr (9, [.ref g1, .ref g2, .ref g3, .ref g4, .ref g5, .ref g6, .ref g7, .ref g8, .ref g9, .ref g10, .ref g11, .ref g12, .ref g13, .ref g14, .ref g15, .int (nI ns), .int 2, .int ico, .int icl, .int irw, .int ibi, .int ien, .int itr, .int ibl, .int ile, .int igr, .int ibk, .int ist, .int ibr]))]
set_option maxHeartbeats 4000000 in
set_option maxRecDepth 100000 in
theorem c_mo_damageC (l : Launch) {D : va_G} {tys : List (ClassId × FieldType)} {cI : ClassId} (hcI : tys[0]? = some (cI, .int)) (g0 : Nat) (g1 : Nat) (g2 : Nat) (g3 : Nat) (g4 : Nat) (g5 : Nat) (g6 : Nat) (g7 : Nat) (g8 : Nat) (g9 : Nat) (g10 : Nat) (g11 : Nat) (g12 : Nat) (g13 : Nat) (g14 : Nat) (g15 : Nat) (ns : Nat) (ith : Int32) (ico : Int32) (icl : Int32) (irw : Int32) (ibi : Int32) (ien : Int32) (itr : Int32) (ibl : Int32) (ile : Int32) (igr : Int32) (ibk : Int32) (ist : Int32) (ibr : Int32) (k : Int32) (b : Int32) (hbb : ¬ b < 0 ∧ ¬ 255 < b) (hbad : ¬ (¬ k < 0 ∧ ¬ nI ns < k) ∨ k = 400) : CsI l D vwCl tys y_Model_damage ws_Model_damage ({ frames := 1, cells := 0, slots := 0, locals := 22 } : Room) [.ref g0, .int k, .int b] [(g0, .inr (9, [.ref g1, .ref g2, .ref g3, .ref g4, .ref g5, .ref g6, .ref g7, .ref g8, .ref g9, .ref g10, .ref g11, .ref g12, .ref g13, .ref g14, .ref g15, .int (nI ns), .int ith, .int ico, .int icl, .int irw, .int ibi, .int ien, .int itr, .int ibl, .int ile, .int igr, .int ibk, .int ist, .int ibr]))] (q_mo_damageC cI g0 g1 g2 g3 g4 g5 g6 g7 g8 g9 g10 g11 g12 g13 g14 g15 ns ith ico icl irw ibi ien itr ibl ile igr ibk ist ibr k b) 0 0 := by
  intro sz
  refine Met.ofW (cc := prog_11_method_31_code) (maxL := 4) (ret := (some .int)) (by decide) rfl ?_
  intro p e s m args below meth c s₁ B hml hv
  obtain ⟨rfl, hsz, hP, hK, hD0, hN⟩ := hv
  have hx := B.exec
  have hb := B.bytes
  have hr := B.returns
  have hts := atoms_spec (ws := ws_Model_damage) B.pre
  have hown : s.vm.findClass "TileForgeModel" = some m.cls := findClass_of_methodNamed B.named
  have hlocks := B.notSynchronized
  subst hsz
  have hD := hD0.self (sz := s.heap.size)
  generalize hAe : va_A [(g0, .inr (9, [.ref g1, .ref g2, .ref g3, .ref g4, .ref g5, .ref g6, .ref g7, .ref g8, .ref g9, .ref g10, .ref g11, .ref g12, .ref g13, .ref g14, .ref g15, .int (nI ns), .int ith, .int ico, .int icl, .int irw, .int ibi, .int ien, .int itr, .int ibl, .int ile, .int igr, .int ibk, .int ist, .int ibr]))] s.heap.size = A at hD ⊢
  have hA : ∀ q : Nat, s.heap.size ≤ q → A q := fun q h => by rw [← hAe]; exact Or.inr h
  have hS : va_S A s.heap s.heap [] := va_S.rf
  have hP : va_P D vwCl [(g0, .inr (9, [.ref g1, .ref g2, .ref g3, .ref g4, .ref g5, .ref g6, .ref g7, .ref g8, .ref g9, .ref g10, .ref g11, .ref g12, .ref g13, .ref g14, .ref g15, .int (nI ns), .int ith, .int ico, .int icl, .int irw, .int ibi, .int ien, .int itr, .int ibl, .int ile, .int igr, .int ibk, .int ist, .int ibr]))] s.heap := hP
  have hl := lv_entry ([.ref g0, .int k, .int b]) (n := 4) (Nat.le_of_ble_eq_true rfl)
  rw [lg_entry_eq]
  generalize (lg_sl ([.ref g0, .int k, .int b]) ++ List.replicate (4 - (lg_sl ([.ref g0, .int k, .int b])).length) Slot.unset).toArray = ls at hl ⊢
  have hl : lv_has ls 4 [(0, .ref g0), (1, .int k), (2, .int b)] := hl
  refine lv_iload_n hx hb d_Model_damage_0 rfl (lv_at hl 2 rfl) ?_
  refine lv_iconst (v := 0) hx hb d_Model_damage_1 (by decide) ?_
  refine lv_sipush (v := 255) hx hb d_Model_damage_2 (by decide) ?_
  refine cs_Si (As := [.int b, .int 0, .int 255]) (rest := []) (wr := [(g0, .inr (9, [.ref g1, .ref g2, .ref g3, .ref g4, .ref g5, .ref g6, .ref g7, .ref g8, .ref g9, .ref g10, .ref g11, .ref g12, .ref g13, .ref g14, .ref g15, .int (nI ns), .int ith, .int ico, .int icl, .int irw, .int ibi, .int ien, .int itr, .int ibl, .int ile, .int igr, .int ibk, .int ist, .int ibr]))]) ⟨hx, hb, hml, hown, hts⟩ (c_mo_in l hcI b 0 255) (va_cwS 3 hts (cs_gS mw_350 mw_351 mw_349 mw_341) rfl rfl rfl hd_Model_in ⟨Nat.le_of_ble_eq_true rfl, Nat.le_of_ble_eq_true rfl⟩) hN hK hP hD hS hA [] [0] rfl rfl rfl rfl (by decide) rfl rfl hl.1 (Nat.le_of_ble_eq_true rfl) d_Model_damage_5 ⟨Nat.le_of_ble_eq_true rfl, Nat.le_of_ble_eq_true rfl⟩ (fun r1 w1 H locs hw hP hD hS => ?_)
  obtain ⟨rfl, rfl⟩ := hw
  have hP : va_P D vwCl [(g0, .inr (9, [.ref g1, .ref g2, .ref g3, .ref g4, .ref g5, .ref g6, .ref g7, .ref g8, .ref g9, .ref g10, .ref g11, .ref g12, .ref g13, .ref g14, .ref g15, .int (nI ns), .int ith, .int ico, .int icl, .int irw, .int ibi, .int ien, .int itr, .int ibl, .int ile, .int igr, .int ibk, .int ist, .int ibr]))] H := hP
  have hD : va_D A [(g0, .inr (9, [.ref g1, .ref g2, .ref g3, .ref g4, .ref g5, .ref g6, .ref g7, .ref g8, .ref g9, .ref g10, .ref g11, .ref g12, .ref g13, .ref g14, .ref g15, .int (nI ns), .int ith, .int ico, .int icl, .int irw, .int ibi, .int ien, .int itr, .int ibl, .int ile, .int igr, .int ibk, .int ist, .int ibr]))] := hD
  refine lv_if_ne (tgt := 17) hx hb d_Model_damage_8 (by decide) (fun c_8 => ?_) (fun c_8 => ?_)
  · have c_8 := cs_b1 c_8
    refine lv_iload_n hx hb d_Model_damage_17 rfl (lv_at hl 1 rfl) ?_
    refine lv_iconst (v := 0) hx hb d_Model_damage_18 (by decide) ?_
    refine lv_aload_n hx hb d_Model_damage_19 rfl (lv_at hl 0 rfl) ?_
    refine va_get (D := D) (ci := 9) (v := .int (nI ns)) (C := "TileForgeModel") (T := T_Model) (N := 29) hx hb hts (cs_in in_Model) hown hK hP 0 rfl rfl 15 (by decide) (hts _ (cs_m mw_444)) (fun _ h9 => h9) rfl d_Model_damage_20 ?_
    refine cs_Si (As := [.int k, .int 0, .int (nI ns)]) (rest := []) (wr := [(g0, .inr (9, [.ref g1, .ref g2, .ref g3, .ref g4, .ref g5, .ref g6, .ref g7, .ref g8, .ref g9, .ref g10, .ref g11, .ref g12, .ref g13, .ref g14, .ref g15, .int (nI ns), .int ith, .int ico, .int icl, .int irw, .int ibi, .int ien, .int itr, .int ibl, .int ile, .int igr, .int ibk, .int ist, .int ibr]))]) ⟨hx, hb, hml, hown, hts⟩ (c_mo_in l hcI k 0 (nI ns)) (va_cwS 3 hts (cs_gS mw_350 mw_351 mw_349 mw_341) rfl rfl rfl hd_Model_in ⟨Nat.le_of_ble_eq_true rfl, Nat.le_of_ble_eq_true rfl⟩) hN hK hP hD hS hA [] [0] rfl rfl rfl rfl (by decide) rfl rfl hl.1 (Nat.le_of_ble_eq_true rfl) d_Model_damage_23 ⟨Nat.le_of_ble_eq_true rfl, Nat.le_of_ble_eq_true rfl⟩ (fun r2 w1 H locs hw hP hD hS => ?_)
    obtain ⟨rfl, rfl⟩ := hw
    have hP : va_P D vwCl [(g0, .inr (9, [.ref g1, .ref g2, .ref g3, .ref g4, .ref g5, .ref g6, .ref g7, .ref g8, .ref g9, .ref g10, .ref g11, .ref g12, .ref g13, .ref g14, .ref g15, .int (nI ns), .int ith, .int ico, .int icl, .int irw, .int ibi, .int ien, .int itr, .int ibl, .int ile, .int igr, .int ibk, .int ist, .int ibr]))] H := hP
    have hD : va_D A [(g0, .inr (9, [.ref g1, .ref g2, .ref g3, .ref g4, .ref g5, .ref g6, .ref g7, .ref g8, .ref g9, .ref g10, .ref g11, .ref g12, .ref g13, .ref g14, .ref g15, .int (nI ns), .int ith, .int ico, .int icl, .int irw, .int ibi, .int ien, .int itr, .int ibl, .int ile, .int igr, .int ibk, .int ist, .int ibr]))] := hD
    refine lv_if_eq (tgt := 36) hx hb d_Model_damage_26 (by decide) (fun c_26 => ?_) (fun c_26 => ?_)
    · have c_26 := cs_b0 c_26
      refine lv_aload_n hx hb d_Model_damage_36 rfl (lv_at hl 0 rfl) ?_
      refine lv_iconst (v := 2) hx hb d_Model_damage_37 (by decide) ?_
      refine cs_Vi (As := [.int 2]) (rest := []) (wr := []) ⟨hx, hb, hml, hown, hts⟩ (c_mo_fail l hcI g0 g1 g2 g3 g4 g5 g6 g7 g8 g9 g10 g11 g12 g13 g14 g15 (nI ns) ith ico icl irw ibi ien itr ibl ile igr ibk ist ibr 2) (cwV 1 hts (cs_gV mw_435 mw_436 mw_437 mw_349 mw_342) rfl rfl rfl ⟨rfl, hd_Model_fail⟩ ⟨Nat.le_of_ble_eq_true rfl, Nat.le_of_ble_eq_true rfl⟩) hN hK hP hD hS hA [0] [] rfl rfl rfl rfl (by decide) (ci := 9) rfl rfl rfl rfl rfl hl.1 (Nat.le_of_ble_eq_true rfl) d_Model_damage_38 ⟨Nat.le_of_ble_eq_true rfl, Nat.le_of_ble_eq_true rfl⟩ (fun r3 w1 H locs hw hP hD hS => ?_)
      obtain ⟨rfl, rfl⟩ := hw
      have hP : va_P D vwCl [(g0, .inr (9, [.ref g1, .ref g2, .ref g3, .ref g4, .ref g5, .ref g6, .ref g7, .ref g8, .ref g9, .ref g10, .ref g11, .ref g12, .ref g13, .ref g14, .ref g15, .int (nI ns), .int 2, .int ico, .int icl, .int irw, .int ibi, .int ien, .int itr, .int ibl, .int ile, .int igr, .int ibk, .int ist, .int ibr]))] H := hP
      have hD : va_D A [(g0, .inr (9, [.ref g1, .ref g2, .ref g3, .ref g4, .ref g5, .ref g6, .ref g7, .ref g8, .ref g9, .ref g10, .ref g11, .ref g12, .ref g13, .ref g14, .ref g15, .int (nI ns), .int 2, .int ico, .int icl, .int irw, .int ibi, .int ien, .int itr, .int ibl, .int ile, .int igr, .int ibk, .int ist, .int ibr]))] := hD
      exact W.iret (v := 0) hx hb hr (fun t ht hW => ⟨⟨0, [(g0, .inr (9, [.ref g1, .ref g2, .ref g3, .ref g4, .ref g5, .ref g6, .ref g7, .ref g8, .ref g9, .ref g10, .ref g11, .ref g12, .ref g13, .ref g14, .ref g15, .int (nI ns), .int 2, .int ico, .int icl, .int irw, .int ibi, .int ien, .int itr, .int ibl, .int ile, .int igr, .int ibk, .int ist, .int ibr]))], rfl, ⟨(rfl), (rfl)⟩, by rw [ht]; exact hP, va_K.moved hW.alike hK, hD⟩, hS.F ht⟩) hS.2.2 d_Model_damage_41
    · have c_26 := cs_b1 c_26
      refine lv_iload_n hx hb d_Model_damage_29 rfl (lv_at hl 1 rfl) ?_
      refine lv_sipush (v := 400) hx hb d_Model_damage_30 (by decide) ?_
      refine lv_icmp_ne (tgt := 42) hx hb d_Model_damage_33 (by decide) (fun c_33 => ?_) (fun c_33 => ?_)
      · exact absurd hbad (fun h => h.elim (fun q => q c_26) c_33)
      · refine lv_aload_n hx hb d_Model_damage_36 rfl (lv_at hl 0 rfl) ?_
        refine lv_iconst (v := 2) hx hb d_Model_damage_37 (by decide) ?_
        refine cs_Vi (As := [.int 2]) (rest := []) (wr := []) ⟨hx, hb, hml, hown, hts⟩ (c_mo_fail l hcI g0 g1 g2 g3 g4 g5 g6 g7 g8 g9 g10 g11 g12 g13 g14 g15 (nI ns) ith ico icl irw ibi ien itr ibl ile igr ibk ist ibr 2) (cwV 1 hts (cs_gV mw_435 mw_436 mw_437 mw_349 mw_342) rfl rfl rfl ⟨rfl, hd_Model_fail⟩ ⟨Nat.le_of_ble_eq_true rfl, Nat.le_of_ble_eq_true rfl⟩) hN hK hP hD hS hA [0] [] rfl rfl rfl rfl (by decide) (ci := 9) rfl rfl rfl rfl rfl hl.1 (Nat.le_of_ble_eq_true rfl) d_Model_damage_38 ⟨Nat.le_of_ble_eq_true rfl, Nat.le_of_ble_eq_true rfl⟩ (fun r4 w1 H locs hw hP hD hS => ?_)
        obtain ⟨rfl, rfl⟩ := hw
        have hP : va_P D vwCl [(g0, .inr (9, [.ref g1, .ref g2, .ref g3, .ref g4, .ref g5, .ref g6, .ref g7, .ref g8, .ref g9, .ref g10, .ref g11, .ref g12, .ref g13, .ref g14, .ref g15, .int (nI ns), .int 2, .int ico, .int icl, .int irw, .int ibi, .int ien, .int itr, .int ibl, .int ile, .int igr, .int ibk, .int ist, .int ibr]))] H := hP
        have hD : va_D A [(g0, .inr (9, [.ref g1, .ref g2, .ref g3, .ref g4, .ref g5, .ref g6, .ref g7, .ref g8, .ref g9, .ref g10, .ref g11, .ref g12, .ref g13, .ref g14, .ref g15, .int (nI ns), .int 2, .int ico, .int icl, .int irw, .int ibi, .int ien, .int itr, .int ibl, .int ile, .int igr, .int ibk, .int ist, .int ibr]))] := hD
        exact W.iret (v := 0) hx hb hr (fun t ht hW => ⟨⟨0, [(g0, .inr (9, [.ref g1, .ref g2, .ref g3, .ref g4, .ref g5, .ref g6, .ref g7, .ref g8, .ref g9, .ref g10, .ref g11, .ref g12, .ref g13, .ref g14, .ref g15, .int (nI ns), .int 2, .int ico, .int icl, .int irw, .int ibi, .int ien, .int itr, .int ibl, .int ile, .int igr, .int ibk, .int ist, .int ibr]))], rfl, ⟨(rfl), (rfl)⟩, by rw [ht]; exact hP, va_K.moved hW.alike hK, hD⟩, hS.F ht⟩) hS.2.2 d_Model_damage_41
  · have c_8 := cs_b0 c_8
    exact absurd hbb c_8
def y_Model_cut : MethodName := ⟨"TileForgeModel", "cut", "(I)I"⟩
def ws_Model_cut : List Cond := .code y_Model_cut prog_11_method_32_code 3 (some .int) :: GW
theorem mw_446 : (.code ⟨"TileForgeModel", "cut", "(I)I"⟩ prog_11_method_32_code 3 (some .int) : Cond) ∈ GW := List.mem_filter.mpr ⟨(List.mem_append_right _ (List.mem_append_right _ (List.mem_append_right _ (List.mem_append_right _ (List.mem_of_getElem? (i := 167) rfl))))), rfl⟩
theorem hd_Model_cut : y_Model_cut.cls ≠ "java/lang/invoke/MethodHandle" ∧ y_Model_cut.cls ≠ "java/lang/invoke/VarHandle" ∧ (parseMethodDescriptor y_Model_cut.desc).map (fun d => d.parameters.length) = some 1 := by decide +kernel
theorem d_Model_cut_0 : decode prog_11_method_32_code 0 = .ok (.iload_n 1, 1) := by decide +kernel
theorem d_Model_cut_1 : decode prog_11_method_32_code 1 = .ok (.iconst 0, 1) := by decide +kernel
theorem d_Model_cut_2 : decode prog_11_method_32_code 2 = .ok (.aload_n 0, 1) := by decide +kernel
theorem d_Model_cut_3 : decode prog_11_method_32_code 3 = .ok (.getfield 142, 3) := by decide +kernel
theorem d_Model_cut_6 : decode prog_11_method_32_code 6 = .ok (.invokestatic 64, 3) := by decide +kernel
theorem d_Model_cut_9 : decode prog_11_method_32_code 9 = .ok (.ifCond .ne 9, 3) := by decide +kernel
theorem d_Model_cut_12 : decode prog_11_method_32_code 12 = .ok (.aload_n 0, 1) := by decide +kernel
theorem d_Model_cut_13 : decode prog_11_method_32_code 13 = .ok (.iconst 1, 1) := by decide +kernel
theorem d_Model_cut_14 : decode prog_11_method_32_code 14 = .ok (.invokevirtual 60, 3) := by decide +kernel
theorem d_Model_cut_17 : decode prog_11_method_32_code 17 = .ok (.ireturn, 1) := by decide +kernel
theorem d_Model_cut_18 : decode prog_11_method_32_code 18 = .ok (.aload_n 0, 1) := by decide +kernel
theorem d_Model_cut_19 : decode prog_11_method_32_code 19 = .ok (.iconst 0, 1) := by decide +kernel
theorem d_Model_cut_20 : decode prog_11_method_32_code 20 = .ok (.putfield 56, 3) := by decide +kernel
theorem d_Model_cut_23 : decode prog_11_method_32_code 23 = .ok (.aload_n 0, 1) := by decide +kernel
theorem d_Model_cut_24 : decode prog_11_method_32_code 24 = .ok (.getfield 142, 3) := by decide +kernel
theorem d_Model_cut_27 : decode prog_11_method_32_code 27 = .ok (.iload_n 1, 1) := by decide +kernel
theorem d_Model_cut_28 : decode prog_11_method_32_code 28 = .ok (.isub, 1) := by decide +kernel
theorem d_Model_cut_29 : decode prog_11_method_32_code 29 = .ok (.istore_n 2, 1) := by decide +kernel
theorem d_Model_cut_30 : decode prog_11_method_32_code 30 = .ok (.aload_n 0, 1) := by decide +kernel
theorem d_Model_cut_31 : decode prog_11_method_32_code 31 = .ok (.iload_n 1, 1) := by decide +kernel
theorem d_Model_cut_32 : decode prog_11_method_32_code 32 = .ok (.putfield 142, 3) := by decide +kernel
theorem d_Model_cut_35 : decode prog_11_method_32_code 35 = .ok (.iload_n 2, 1) := by decide +kernel
theorem d_Model_cut_36 : decode prog_11_method_32_code 36 = .ok (.ireturn, 1) := by decide +kernel
def q_mo_cut (cI : ClassId) (g0 : Nat) (g1 : Nat) (g2 : Nat) (g3 : Nat) (g4 : Nat) (g5 : Nat) (g6 : Nat) (g7 : Nat) (g8 : Nat) (g9 : Nat) (g10 : Nat) (g11 : Nat) (g12 : Nat) (g13 : Nat) (g14 : Nat) (g15 : Nat) (ns : Nat) (ith : Int32) (ico : Int32) (icl : Int32) (irw : Int32) (ibi : Int32) (ien : Int32) (itr : Int32) (ibl : Int32) (ile : Int32) (igr : Int32) (ibk : Int32) (ist : Int32) (ibr : Int32) (k : Nat) : Int32 → va_W → Prop := fun rr ww => rr = (nI ns - nI k) ∧ ww = [(g0, .inr (9, [.ref g1, .ref g2, .ref g3, .ref g4, .ref g5, .ref g6, .ref g7, .ref g8, .ref g9, .ref g10, .ref g11, .ref g12, .ref g13, .ref g14, .ref g15, .int (nI k), .int 0, .int ico, .int icl, .int irw, .int ibi, .int ien, .int itr, .int ibl, .int ile, .int igr, .int ibk, .int ist, .int ibr]))]
set_option maxHeartbeats 4000000 in
set_option maxRecDepth 100000 in
theorem c_mo_cut (l : Launch) {D : va_G} {tys : List (ClassId × FieldType)} {cI : ClassId} (hcI : tys[0]? = some (cI, .int)) (g0 : Nat) (g1 : Nat) (g2 : Nat) (g3 : Nat) (g4 : Nat) (g5 : Nat) (g6 : Nat) (g7 : Nat) (g8 : Nat) (g9 : Nat) (g10 : Nat) (g11 : Nat) (g12 : Nat) (g13 : Nat) (g14 : Nat) (g15 : Nat) (ns : Nat) (ith : Int32) (ico : Int32) (icl : Int32) (irw : Int32) (ibi : Int32) (ien : Int32) (itr : Int32) (ibl : Int32) (ile : Int32) (igr : Int32) (ibk : Int32) (ist : Int32) (ibr : Int32) (k : Nat) (hns : ns ≤ 400) (hk : k ≤ ns) : CsI l D vwCl tys y_Model_cut ws_Model_cut ({ frames := 1, cells := 0, slots := 0, locals := 22 } : Room) [.ref g0, .int (nI k)] [(g0, .inr (9, [.ref g1, .ref g2, .ref g3, .ref g4, .ref g5, .ref g6, .ref g7, .ref g8, .ref g9, .ref g10, .ref g11, .ref g12, .ref g13, .ref g14, .ref g15, .int (nI ns), .int ith, .int ico, .int icl, .int irw, .int ibi, .int ien, .int itr, .int ibl, .int ile, .int igr, .int ibk, .int ist, .int ibr]))] (q_mo_cut cI g0 g1 g2 g3 g4 g5 g6 g7 g8 g9 g10 g11 g12 g13 g14 g15 ns ith ico icl irw ibi ien itr ibl ile igr ibk ist ibr k) 0 0 := by
  intro sz
  refine Met.ofW (cc := prog_11_method_32_code) (maxL := 3) (ret := (some .int)) (by decide) rfl ?_
  intro p e s m args below meth c s₁ B hml hv
  obtain ⟨rfl, hsz, hP, hK, hD0, hN⟩ := hv
  have hx := B.exec
  have hb := B.bytes
  have hr := B.returns
  have hts := atoms_spec (ws := ws_Model_cut) B.pre
  have hown : s.vm.findClass "TileForgeModel" = some m.cls := findClass_of_methodNamed B.named
  have hlocks := B.notSynchronized
  subst hsz
  have hD := hD0.self (sz := s.heap.size)
  generalize hAe : va_A [(g0, .inr (9, [.ref g1, .ref g2, .ref g3, .ref g4, .ref g5, .ref g6, .ref g7, .ref g8, .ref g9, .ref g10, .ref g11, .ref g12, .ref g13, .ref g14, .ref g15, .int (nI ns), .int ith, .int ico, .int icl, .int irw, .int ibi, .int ien, .int itr, .int ibl, .int ile, .int igr, .int ibk, .int ist, .int ibr]))] s.heap.size = A at hD ⊢
  have hA : ∀ q : Nat, s.heap.size ≤ q → A q := fun q h => by rw [← hAe]; exact Or.inr h
  have hS : va_S A s.heap s.heap [] := va_S.rf
  have hP : va_P D vwCl [(g0, .inr (9, [.ref g1, .ref g2, .ref g3, .ref g4, .ref g5, .ref g6, .ref g7, .ref g8, .ref g9, .ref g10, .ref g11, .ref g12, .ref g13, .ref g14, .ref g15, .int (nI ns), .int ith, .int ico, .int icl, .int irw, .int ibi, .int ien, .int itr, .int ibl, .int ile, .int igr, .int ibk, .int ist, .int ibr]))] s.heap := hP
  have hl := lv_entry ([.ref g0, .int (nI k)]) (n := 3) (Nat.le_of_ble_eq_true rfl)
  rw [lg_entry_eq]
  generalize (lg_sl ([.ref g0, .int (nI k)]) ++ List.replicate (3 - (lg_sl ([.ref g0, .int (nI k)])).length) Slot.unset).toArray = ls at hl ⊢
  have hl : lv_has ls 3 [(0, .ref g0), (1, .int (nI k))] := hl
  refine lv_iload_n hx hb d_Model_cut_0 rfl (lv_at hl 1 rfl) ?_
  refine lv_iconst (v := 0) hx hb d_Model_cut_1 (by decide) ?_
  refine lv_aload_n hx hb d_Model_cut_2 rfl (lv_at hl 0 rfl) ?_
  refine va_get (D := D) (ci := 9) (v := .int (nI ns)) (C := "TileForgeModel") (T := T_Model) (N := 29) hx hb hts (cs_in in_Model) hown hK hP 0 rfl rfl 15 (by decide) (hts _ (cs_m mw_444)) (fun _ h9 => h9) rfl d_Model_cut_3 ?_
  refine cs_Si (As := [.int (nI k), .int 0, .int (nI ns)]) (rest := []) (wr := [(g0, .inr (9, [.ref g1, .ref g2, .ref g3, .ref g4, .ref g5, .ref g6, .ref g7, .ref g8, .ref g9, .ref g10, .ref g11, .ref g12, .ref g13, .ref g14, .ref g15, .int (nI ns), .int ith, .int ico, .int icl, .int irw, .int ibi, .int ien, .int itr, .int ibl, .int ile, .int igr, .int ibk, .int ist, .int ibr]))]) ⟨hx, hb, hml, hown, hts⟩ (c_mo_in l hcI (nI k) 0 (nI ns)) (va_cwS 3 hts (cs_gS mw_350 mw_351 mw_349 mw_341) rfl rfl rfl hd_Model_in ⟨Nat.le_of_ble_eq_true rfl, Nat.le_of_ble_eq_true rfl⟩) hN hK hP hD hS hA [] [0] rfl rfl rfl rfl (by decide) rfl rfl hl.1 (Nat.le_of_ble_eq_true rfl) d_Model_cut_6 ⟨Nat.le_of_ble_eq_true rfl, Nat.le_of_ble_eq_true rfl⟩ (fun r1 w1 H locs hw hP hD hS => ?_)
  obtain ⟨rfl, rfl⟩ := hw
  have hP : va_P D vwCl [(g0, .inr (9, [.ref g1, .ref g2, .ref g3, .ref g4, .ref g5, .ref g6, .ref g7, .ref g8, .ref g9, .ref g10, .ref g11, .ref g12, .ref g13, .ref g14, .ref g15, .int (nI ns), .int ith, .int ico, .int icl, .int irw, .int ibi, .int ien, .int itr, .int ibl, .int ile, .int igr, .int ibk, .int ist, .int ibr]))] H := hP
  have hD : va_D A [(g0, .inr (9, [.ref g1, .ref g2, .ref g3, .ref g4, .ref g5, .ref g6, .ref g7, .ref g8, .ref g9, .ref g10, .ref g11, .ref g12, .ref g13, .ref g14, .ref g15, .int (nI ns), .int ith, .int ico, .int icl, .int irw, .int ibi, .int ien, .int itr, .int ibl, .int ile, .int igr, .int ibk, .int ist, .int ibr]))] := hD
  refine lv_if_ne (tgt := 18) hx hb d_Model_cut_9 (by decide) (fun c_9 => ?_) (fun c_9 => ?_)
  · have c_9 := cs_b1 c_9
    refine lv_aload_n hx hb d_Model_cut_18 rfl (lv_at hl 0 rfl) ?_
    refine lv_iconst (v := 0) hx hb d_Model_cut_19 (by decide) ?_
    refine va_put (D := D) (ci := 9) (v := .int 0) (ty := .int) (C := "TileForgeModel") (T := T_Model) (N := 29) hx hb hts (cs_in in_Model) ty_Model tok_Model nm_Model hown hK hP hD hS 0 rfl rfl 16 (by decide) (hts _ (cs_m mw_343)) (fun _ h9 => h9) rfl (by decide +kernel) rfl rfl (Nat.le_of_ble_eq_true rfl) d_Model_cut_20 (fun H locs hP hD hS => ?_)
    have hP : va_P D vwCl [(g0, .inr (9, [.ref g1, .ref g2, .ref g3, .ref g4, .ref g5, .ref g6, .ref g7, .ref g8, .ref g9, .ref g10, .ref g11, .ref g12, .ref g13, .ref g14, .ref g15, .int (nI ns), .int 0, .int ico, .int icl, .int irw, .int ibi, .int ien, .int itr, .int ibl, .int ile, .int igr, .int ibk, .int ist, .int ibr]))] H := hP
    have hD : va_D A [(g0, .inr (9, [.ref g1, .ref g2, .ref g3, .ref g4, .ref g5, .ref g6, .ref g7, .ref g8, .ref g9, .ref g10, .ref g11, .ref g12, .ref g13, .ref g14, .ref g15, .int (nI ns), .int 0, .int ico, .int icl, .int irw, .int ibi, .int ien, .int itr, .int ibl, .int ile, .int igr, .int ibk, .int ist, .int ibr]))] := hD
    refine lv_aload_n hx hb d_Model_cut_23 rfl (lv_at hl 0 rfl) ?_
    refine va_get (D := D) (ci := 9) (v := .int (nI ns)) (C := "TileForgeModel") (T := T_Model) (N := 29) hx hb hts (cs_in in_Model) hown hK hP 0 rfl rfl 15 (by decide) (hts _ (cs_m mw_444)) (fun _ h9 => h9) rfl d_Model_cut_24 ?_
    refine lv_iload_n hx hb d_Model_cut_27 rfl (lv_at hl 1 rfl) ?_
    refine lv_isub hx hb d_Model_cut_28 ?_
    refine lv_istore_n (lv' := [(2, .int ((nI ns) - (nI k))), (0, .ref g0), (1, .int (nI k))]) hx hb d_Model_cut_29 rfl hl (by decide) rfl (fun ls hl => ?_)
    refine lv_aload_n hx hb d_Model_cut_30 rfl (lv_at hl 1 rfl) ?_
    refine lv_iload_n hx hb d_Model_cut_31 rfl (lv_at hl 2 rfl) ?_
    refine va_put (D := D) (ci := 9) (v := .int (nI k)) (ty := .int) (C := "TileForgeModel") (T := T_Model) (N := 29) hx hb hts (cs_in in_Model) ty_Model tok_Model nm_Model hown hK hP hD hS 0 rfl rfl 15 (by decide) (hts _ (cs_m mw_444)) (fun _ h9 => h9) rfl (by decide +kernel) rfl rfl (Nat.le_of_ble_eq_true rfl) d_Model_cut_32 (fun H locs hP hD hS => ?_)
    have hP : va_P D vwCl [(g0, .inr (9, [.ref g1, .ref g2, .ref g3, .ref g4, .ref g5, .ref g6, .ref g7, .ref g8, .ref g9, .ref g10, .ref g11, .ref g12, .ref g13, .ref g14, .ref g15, .int (nI k), .int 0, .int ico, .int icl, .int irw, .int ibi, .int ien, .int itr, .int ibl, .int ile, .int igr, .int ibk, .int ist, .int ibr]))] H := hP
    have hD : va_D A [(g0, .inr (9, [.ref g1, .ref g2, .ref g3, .ref g4, .ref g5, .ref g6, .ref g7, .ref g8, .ref g9, .ref g10, .ref g11, .ref g12, .ref g13, .ref g14, .ref g15, .int (nI k), .int 0, .int ico, .int icl, .int irw, .int ibi, .int ien, .int itr, .int ibl, .int ile, .int igr, .int ibk, .int ist, .int ibr]))] := hD
    refine lv_iload_n hx hb d_Model_cut_35 rfl (lv_at hl 0 rfl) ?_
    exact W.iret (v := ((nI ns) - (nI k))) hx hb hr (fun t ht hW => ⟨⟨((nI ns) - (nI k)), [(g0, .inr (9, [.ref g1, .ref g2, .ref g3, .ref g4, .ref g5, .ref g6, .ref g7, .ref g8, .ref g9, .ref g10, .ref g11, .ref g12, .ref g13, .ref g14, .ref g15, .int (nI k), .int 0, .int ico, .int icl, .int irw, .int ibi, .int ien, .int itr, .int ibl, .int ile, .int igr, .int ibk, .int ist, .int ibr]))], rfl, ⟨(rfl), (rfl)⟩, by rw [ht]; exact hP, va_K.moved hW.alike hK, hD⟩, hS.F ht⟩) hS.2.2 d_Model_cut_36
  · have c_9 := cs_b0 c_9
    exact absurd (cs_inL hk (by omega)) c_9
def q_mo_cutB (cI : ClassId) (g0 : Nat) (g1 : Nat) (g2 : Nat) (g3 : Nat) (g4 : Nat) (g5 : Nat) (g6 : Nat) (g7 : Nat) (g8 : Nat) (g9 : Nat) (g10 : Nat) (g11 : Nat) (g12 : Nat) (g13 : Nat) (g14 : Nat) (g15 : Nat) (ns : Nat) (ith : Int32) (ico : Int32) (icl : Int32) (irw : Int32) (ibi : Int32) (ien : Int32) (itr : Int32) (ibl : Int32) (ile : Int32) (igr : Int32) (ibk : Int32) (ist : Int32) (ibr : Int32) (k : Int32) : Int32 → va_W → Prop := fun rr ww => rr = (0) ∧ ww = [(g0, .inr (9, [.ref g1, .ref g2, .ref g3, .ref g4, .ref g5, .ref g6, .ref g7, .ref g8, .ref g9, .ref g10, .ref g11, .ref g12, .ref g13, .ref g14, .ref g15, .int (nI ns), .int 1, .int ico, .int icl, .int irw, .int ibi, .int ien, .int itr, .int ibl, .int ile, .int igr, .int ibk, .int ist, .int ibr]))]
set_option maxHeartbeats 4000000 in
set_option maxRecDepth 100000 in
theorem c_mo_cutB (l : Launch) {D : va_G} {tys : List (ClassId × FieldType)} {cI : ClassId} (hcI : tys[0]? = some (cI, .int)) (g0 : Nat) (g1 : Nat) (g2 : Nat) (g3 : Nat) (g4 : Nat) (g5 : Nat) (g6 : Nat) (g7 : Nat) (g8 : Nat) (g9 : Nat) (g10 : Nat) (g11 : Nat) (g12 : Nat) (g13 : Nat) (g14 : Nat) (g15 : Nat) (ns : Nat) (ith : Int32) (ico : Int32) (icl : Int32) (irw : Int32) (ibi : Int32) (ien : Int32) (itr : Int32) (ibl : Int32) (ile : Int32) (igr : Int32) (ibk : Int32) (ist : Int32) (ibr : Int32) (k : Int32) (hbad : ¬ (¬ k < 0 ∧ ¬ nI ns < k)) : CsI l D vwCl tys y_Model_cut ws_Model_cut ({ frames := 1, cells := 0, slots := 0, locals := 22 } : Room) [.ref g0, .int k] [(g0, .inr (9, [.ref g1, .ref g2, .ref g3, .ref g4, .ref g5, .ref g6, .ref g7, .ref g8, .ref g9, .ref g10, .ref g11, .ref g12, .ref g13, .ref g14, .ref g15, .int (nI ns), .int ith, .int ico, .int icl, .int irw, .int ibi, .int ien, .int itr, .int ibl, .int ile, .int igr, .int ibk, .int ist, .int ibr]))] (q_mo_cutB cI g0 g1 g2 g3 g4 g5 g6 g7 g8 g9 g10 g11 g12 g13 g14 g15 ns ith ico icl irw ibi ien itr ibl ile igr ibk ist ibr k) 0 0 := by
  intro sz
  refine Met.ofW (cc := prog_11_method_32_code) (maxL := 3) (ret := (some .int)) (by decide) rfl ?_
  intro p e s m args below meth c s₁ B hml hv
  obtain ⟨rfl, hsz, hP, hK, hD0, hN⟩ := hv
  have hx := B.exec
  have hb := B.bytes
  have hr := B.returns
  have hts := atoms_spec (ws := ws_Model_cut) B.pre
  have hown : s.vm.findClass "TileForgeModel" = some m.cls := findClass_of_methodNamed B.named
  have hlocks := B.notSynchronized
  subst hsz
  have hD := hD0.self (sz := s.heap.size)
  generalize hAe : va_A [(g0, .inr (9, [.ref g1, .ref g2, .ref g3, .ref g4, .ref g5, .ref g6, .ref g7, .ref g8, .ref g9, .ref g10, .ref g11, .ref g12, .ref g13, .ref g14, .ref g15, .int (nI ns), .int ith, .int ico, .int icl, .int irw, .int ibi, .int ien, .int itr, .int ibl, .int ile, .int igr, .int ibk, .int ist, .int ibr]))] s.heap.size = A at hD ⊢
  have hA : ∀ q : Nat, s.heap.size ≤ q → A q := fun q h => by rw [← hAe]; exact Or.inr h
  have hS : va_S A s.heap s.heap [] := va_S.rf
  have hP : va_P D vwCl [(g0, .inr (9, [.ref g1, .ref g2, .ref g3, .ref g4, .ref g5, .ref g6, .ref g7, .ref g8, .ref g9, .ref g10, .ref g11, .ref g12, .ref g13, .ref g14, .ref g15, .int (nI ns), .int ith, .int ico, .int icl, .int irw, .int ibi, .int ien, .int itr, .int ibl, .int ile, .int igr, .int ibk, .int ist, .int ibr]))] s.heap := hP
  have hl := lv_entry ([.ref g0, .int k]) (n := 3) (Nat.le_of_ble_eq_true rfl)
  rw [lg_entry_eq]
  generalize (lg_sl ([.ref g0, .int k]) ++ List.replicate (3 - (lg_sl ([.ref g0, .int k])).length) Slot.unset).toArray = ls at hl ⊢
  have hl : lv_has ls 3 [(0, .ref g0), (1, .int k)] := hl
  refine lv_iload_n hx hb d_Model_cut_0 rfl (lv_at hl 1 rfl) ?_
  refine lv_iconst (v := 0) hx hb d_Model_cut_1 (by decide) ?_
  refine lv_aload_n hx hb d_Model_cut_2 rfl (lv_at hl 0 rfl) ?_
  refine va_get (D := D) (ci := 9) (v := .int (nI ns)) (C := "TileForgeModel") (T := T_Model) (N := 29) hx hb hts (cs_in in_Model) hown hK hP 0 rfl rfl 15 (by decide) (hts _ (cs_m mw_444)) (fun _ h9 => h9) rfl d_Model_cut_3 ?_
  refine cs_Si (As := [.int k, .int 0, .int (nI ns)]) (rest := []) (wr := [(g0, .inr (9, [.ref g1, .ref g2, .ref g3, .ref g4, .ref g5, .ref g6, .ref g7, .ref g8, .ref g9, .ref g10, .ref g11, .ref g12, .ref g13, .ref g14, .ref g15, .int (nI ns), .int ith, .int ico, .int icl, .int irw, .int ibi, .int ien, .int itr, .int ibl, .int ile, .int igr, .int ibk, .int ist, .int ibr]))]) ⟨hx, hb, hml, hown, hts⟩ (c_mo_in l hcI k 0 (nI ns)) (va_cwS 3 hts (cs_gS mw_350 mw_351 mw_349 mw_341) rfl rfl rfl hd_Model_in ⟨Nat.le_of_ble_eq_true rfl, Nat.le_of_ble_eq_true rfl⟩) hN hK hP hD hS hA [] [0] rfl rfl rfl rfl (by decide) rfl rfl hl.1 (Nat.le_of_ble_eq_true rfl) d_Model_cut_6 ⟨Nat.le_of_ble_eq_true rfl, Nat.le_of_ble_eq_true rfl⟩ (fun r1 w1 H locs hw hP hD hS => ?_)
  obtain ⟨rfl, rfl⟩ := hw
  have hP : va_P D vwCl [(g0, .inr (9, [.ref g1, .ref g2, .ref g3, .ref g4, .ref g5, .ref g6, .ref g7, .ref g8, .ref g9, .ref g10, .ref g11, .ref g12, .ref g13, .ref g14, .ref g15, .int (nI ns), .int ith, .int ico, .int icl, .int irw, .int ibi, .int ien, .int itr, .int ibl, .int ile, .int igr, .int ibk, .int ist, .int ibr]))] H := hP
  have hD : va_D A [(g0, .inr (9, [.ref g1, .ref g2, .ref g3, .ref g4, .ref g5, .ref g6, .ref g7, .ref g8, .ref g9, .ref g10, .ref g11, .ref g12, .ref g13, .ref g14, .ref g15, .int (nI ns), .int ith, .int ico, .int icl, .int irw, .int ibi, .int ien, .int itr, .int ibl, .int ile, .int igr, .int ibk, .int ist, .int ibr]))] := hD
  refine lv_if_ne (tgt := 18) hx hb d_Model_cut_9 (by decide) (fun c_9 => ?_) (fun c_9 => ?_)
  · have c_9 := cs_b1 c_9
    exact absurd c_9 hbad
  · have c_9 := cs_b0 c_9
    refine lv_aload_n hx hb d_Model_cut_12 rfl (lv_at hl 0 rfl) ?_
    refine lv_iconst (v := 1) hx hb d_Model_cut_13 (by decide) ?_
    refine cs_Vi (As := [.int 1]) (rest := []) (wr := []) ⟨hx, hb, hml, hown, hts⟩ (c_mo_fail l hcI g0 g1 g2 g3 g4 g5 g6 g7 g8 g9 g10 g11 g12 g13 g14 g15 (nI ns) ith ico icl irw ibi ien itr ibl ile igr ibk ist ibr 1) (cwV 1 hts (cs_gV mw_435 mw_436 mw_437 mw_349 mw_342) rfl rfl rfl ⟨rfl, hd_Model_fail⟩ ⟨Nat.le_of_ble_eq_true rfl, Nat.le_of_ble_eq_true rfl⟩) hN hK hP hD hS hA [0] [] rfl rfl rfl rfl (by decide) (ci := 9) rfl rfl rfl rfl rfl hl.1 (Nat.le_of_ble_eq_true rfl) d_Model_cut_14 ⟨Nat.le_of_ble_eq_true rfl, Nat.le_of_ble_eq_true rfl⟩ (fun r2 w1 H locs hw hP hD hS => ?_)
    obtain ⟨rfl, rfl⟩ := hw
    have hP : va_P D vwCl [(g0, .inr (9, [.ref g1, .ref g2, .ref g3, .ref g4, .ref g5, .ref g6, .ref g7, .ref g8, .ref g9, .ref g10, .ref g11, .ref g12, .ref g13, .ref g14, .ref g15, .int (nI ns), .int 1, .int ico, .int icl, .int irw, .int ibi, .int ien, .int itr, .int ibl, .int ile, .int igr, .int ibk, .int ist, .int ibr]))] H := hP
    have hD : va_D A [(g0, .inr (9, [.ref g1, .ref g2, .ref g3, .ref g4, .ref g5, .ref g6, .ref g7, .ref g8, .ref g9, .ref g10, .ref g11, .ref g12, .ref g13, .ref g14, .ref g15, .int (nI ns), .int 1, .int ico, .int icl, .int irw, .int ibi, .int ien, .int itr, .int ibl, .int ile, .int igr, .int ibk, .int ist, .int ibr]))] := hD
    exact W.iret (v := 0) hx hb hr (fun t ht hW => ⟨⟨0, [(g0, .inr (9, [.ref g1, .ref g2, .ref g3, .ref g4, .ref g5, .ref g6, .ref g7, .ref g8, .ref g9, .ref g10, .ref g11, .ref g12, .ref g13, .ref g14, .ref g15, .int (nI ns), .int 1, .int ico, .int icl, .int irw, .int ibi, .int ien, .int itr, .int ibl, .int ile, .int igr, .int ibk, .int ist, .int ibr]))], rfl, ⟨(rfl), (rfl)⟩, by rw [ht]; exact hP, va_K.moved hW.alike hK, hD⟩, hS.F ht⟩) hS.2.2 d_Model_cut_17
def y_Model_get : MethodName := ⟨"TileForgeModel", "get", "(III)I"⟩
def ws_Model_get : List Cond := .code y_Model_get prog_11_method_33_code 4 (some .int) :: GW
theorem mw_447 : (.code ⟨"TileForgeModel", "get", "(III)I"⟩ prog_11_method_33_code 4 (some .int) : Cond) ∈ GW := List.mem_filter.mpr ⟨(List.mem_append_right _ (List.mem_append_right _ (List.mem_append_right _ (List.mem_append_right _ (List.mem_of_getElem? (i := 171) rfl))))), rfl⟩
theorem hd_Model_get : y_Model_get.cls ≠ "java/lang/invoke/MethodHandle" ∧ y_Model_get.cls ≠ "java/lang/invoke/VarHandle" ∧ (parseMethodDescriptor y_Model_get.desc).map (fun d => d.parameters.length) = some 3 := by decide +kernel
theorem d_Model_get_0 : decode prog_11_method_33_code 0 = .ok (.iload_n 1, 1) := by decide +kernel
theorem d_Model_get_1 : decode prog_11_method_33_code 1 = .ok (.iconst 0, 1) := by decide +kernel
theorem d_Model_get_2 : decode prog_11_method_33_code 2 = .ok (.iconst 2, 1) := by decide +kernel
theorem d_Model_get_3 : decode prog_11_method_33_code 3 = .ok (.invokestatic 64, 3) := by decide +kernel
theorem d_Model_get_6 : decode prog_11_method_33_code 6 = .ok (.ifCond .ne 9, 3) := by decide +kernel
theorem d_Model_get_9 : decode prog_11_method_33_code 9 = .ok (.aload_n 0, 1) := by decide +kernel
theorem d_Model_get_10 : decode prog_11_method_33_code 10 = .ok (.iconst 1, 1) := by decide +kernel
theorem d_Model_get_11 : decode prog_11_method_33_code 11 = .ok (.invokevirtual 60, 3) := by decide +kernel
theorem d_Model_get_14 : decode prog_11_method_33_code 14 = .ok (.ireturn, 1) := by decide +kernel
theorem d_Model_get_15 : decode prog_11_method_33_code 15 = .ok (.aload_n 0, 1) := by decide +kernel
theorem d_Model_get_16 : decode prog_11_method_33_code 16 = .ok (.getfield 52, 3) := by decide +kernel
theorem d_Model_get_19 : decode prog_11_method_33_code 19 = .ok (.iload_n 1, 1) := by decide +kernel
theorem d_Model_get_20 : decode prog_11_method_33_code 20 = .ok (.baload, 1) := by decide +kernel
theorem d_Model_get_21 : decode prog_11_method_33_code 21 = .ok (.ifCond .ne 9, 3) := by decide +kernel
theorem d_Model_get_24 : decode prog_11_method_33_code 24 = .ok (.aload_n 0, 1) := by decide +kernel
theorem d_Model_get_25 : decode prog_11_method_33_code 25 = .ok (.iconst 2, 1) := by decide +kernel
theorem d_Model_get_26 : decode prog_11_method_33_code 26 = .ok (.invokevirtual 60, 3) := by decide +kernel
theorem d_Model_get_29 : decode prog_11_method_33_code 29 = .ok (.ireturn, 1) := by decide +kernel
theorem d_Model_get_30 : decode prog_11_method_33_code 30 = .ok (.aload_n 0, 1) := by decide +kernel
theorem d_Model_get_31 : decode prog_11_method_33_code 31 = .ok (.iload_n 1, 1) := by decide +kernel
theorem d_Model_get_32 : decode prog_11_method_33_code 32 = .ok (.iload_n 2, 1) := by decide +kernel
theorem d_Model_get_33 : decode prog_11_method_33_code 33 = .ok (.iload_n 3, 1) := by decide +kernel
theorem d_Model_get_34 : decode prog_11_method_33_code 34 = .ok (.invokevirtual 68, 3) := by decide +kernel
theorem d_Model_get_37 : decode prog_11_method_33_code 37 = .ok (.ifCond .ne 9, 3) := by decide +kernel
theorem d_Model_get_40 : decode prog_11_method_33_code 40 = .ok (.aload_n 0, 1) := by decide +kernel
theorem d_Model_get_41 : decode prog_11_method_33_code 41 = .ok (.iconst 3, 1) := by decide +kernel
theorem d_Model_get_42 : decode prog_11_method_33_code 42 = .ok (.invokevirtual 60, 3) := by decide +kernel
theorem d_Model_get_45 : decode prog_11_method_33_code 45 = .ok (.ireturn, 1) := by decide +kernel
theorem d_Model_get_46 : decode prog_11_method_33_code 46 = .ok (.aload_n 0, 1) := by decide +kernel
theorem d_Model_get_47 : decode prog_11_method_33_code 47 = .ok (.iconst 0, 1) := by decide +kernel
theorem d_Model_get_48 : decode prog_11_method_33_code 48 = .ok (.putfield 56, 3) := by decide +kernel
theorem d_Model_get_51 : decode prog_11_method_33_code 51 = .ok (.aload_n 0, 1) := by decide +kernel
theorem d_Model_get_52 : decode prog_11_method_33_code 52 = .ok (.getfield 16, 3) := by decide +kernel
theorem d_Model_get_55 : decode prog_11_method_33_code 55 = .ok (.iload_n 1, 1) := by decide +kernel
theorem d_Model_get_56 : decode prog_11_method_33_code 56 = .ok (.iload_n 2, 1) := by decide +kernel
theorem d_Model_get_57 : decode prog_11_method_33_code 57 = .ok (.iload_n 3, 1) := by decide +kernel
theorem d_Model_get_58 : decode prog_11_method_33_code 58 = .ok (.invokestatic 71, 3) := by decide +kernel
theorem d_Model_get_61 : decode prog_11_method_33_code 61 = .ok (.iaload, 1) := by decide +kernel
theorem d_Model_get_62 : decode prog_11_method_33_code 62 = .ok (.ireturn, 1) := by decide +kernel
def q_mo_get (cI cZ : ClassId) (g0 : Nat) (g1 : Nat) (g2 : Nat) (g3 : Nat) (g4 : Nat) (g5 : Nat) (g6 : Nat) (g7 : Nat) (g8 : Nat) (g9 : Nat) (g10 : Nat) (g11 : Nat) (g12 : Nat) (g13 : Nat) (g14 : Nat) (g15 : Nat) (isz : Int32) (ith : Int32) (ico : Int32) (icl : Int32) (irw : Int32) (ibi : Int32) (ien : Int32) (itr : Int32) (ibl : Int32) (ile : Int32) (igr : Int32) (ibk : Int32) (ist : Int32) (ibr : Int32) (wd : Nat → Int32) (hg : Nat → Int32) (pix : Nat → Int32) (thr : Nat → Int32) (o : Nat) (x : Nat) (y : Nat) (pw : Nat) (ph : Nat) : Int32 → va_W → Prop := fun rr ww => rr = (pix (144 * o + (y * 12 + x))) ∧ ww = [(g0, .inr (9, [.ref g1, .ref g2, .ref g3, .ref g4, .ref g5, .ref g6, .ref g7, .ref g8, .ref g9, .ref g10, .ref g11, .ref g12, .ref g13, .ref g14, .ref g15, .int isz, .int 0, .int ico, .int icl, .int irw, .int ibi, .int ien, .int itr, .int ibl, .int ile, .int igr, .int ibk, .int ist, .int ibr])), (g1, .inl (cI, 4, .inl wd)), (g2, .inl (cI, 4, .inl hg)), (g3, .inl (cI, 576, .inl pix)), (g15, .inl (cZ, 4, .inl thr))]
set_option maxHeartbeats 4000000 in
set_option maxRecDepth 100000 in
theorem c_mo_get (l : Launch) {D : va_G} {tys : List (ClassId × FieldType)} {cI cZ : ClassId} (hcI : tys[0]? = some (cI, .int)) (hcZ : tys[3]? = some (cZ, .boolean)) (g0 : Nat) (g1 : Nat) (g2 : Nat) (g3 : Nat) (g4 : Nat) (g5 : Nat) (g6 : Nat) (g7 : Nat) (g8 : Nat) (g9 : Nat) (g10 : Nat) (g11 : Nat) (g12 : Nat) (g13 : Nat) (g14 : Nat) (g15 : Nat) (isz : Int32) (ith : Int32) (ico : Int32) (icl : Int32) (irw : Int32) (ibi : Int32) (ien : Int32) (itr : Int32) (ibl : Int32) (ile : Int32) (igr : Int32) (ibk : Int32) (ist : Int32) (ibr : Int32) (wd : Nat → Int32) (hg : Nat → Int32) (pix : Nat → Int32) (thr : Nat → Int32) (o : Nat) (x : Nat) (y : Nat) (pw : Nat) (ph : Nat) (ho : o ≤ 2) (hth : ¬ thr o = 0) (hwd : wd o = nI pw) (hhg : hg o = nI ph) (hx1 : x < pw) (hy1 : y < ph) (hpw : pw ≤ 12) (hph : ph ≤ 12) : CsI l D vwCl tys y_Model_get ws_Model_get ({ frames := 2, cells := 0, slots := 0, locals := 45 } : Room) [.ref g0, .int (nI o), .int (nI x), .int (nI y)] [(g0, .inr (9, [.ref g1, .ref g2, .ref g3, .ref g4, .ref g5, .ref g6, .ref g7, .ref g8, .ref g9, .ref g10, .ref g11, .ref g12, .ref g13, .ref g14, .ref g15, .int isz, .int ith, .int ico, .int icl, .int irw, .int ibi, .int ien, .int itr, .int ibl, .int ile, .int igr, .int ibk, .int ist, .int ibr])), (g1, .inl (cI, 4, .inl wd)), (g2, .inl (cI, 4, .inl hg)), (g3, .inl (cI, 576, .inl pix)), (g15, .inl (cZ, 4, .inl thr))] (q_mo_get cI cZ g0 g1 g2 g3 g4 g5 g6 g7 g8 g9 g10 g11 g12 g13 g14 g15 isz ith ico icl irw ibi ien itr ibl ile igr ibk ist ibr wd hg pix thr o x y pw ph) 0 0 := by
  intro sz
  refine Met.ofW (cc := prog_11_method_33_code) (maxL := 4) (ret := (some .int)) (by decide) rfl ?_
  intro p e s m args below meth c s₁ B hml hv
  obtain ⟨rfl, hsz, hP, hK, hD0, hN⟩ := hv
  have hx := B.exec
  have hb := B.bytes
  have hr := B.returns
  have hts := atoms_spec (ws := ws_Model_get) B.pre
  have hown : s.vm.findClass "TileForgeModel" = some m.cls := findClass_of_methodNamed B.named
  have hlocks := B.notSynchronized
  subst hsz
  have hD := hD0.self (sz := s.heap.size)
  generalize hAe : va_A [(g0, .inr (9, [.ref g1, .ref g2, .ref g3, .ref g4, .ref g5, .ref g6, .ref g7, .ref g8, .ref g9, .ref g10, .ref g11, .ref g12, .ref g13, .ref g14, .ref g15, .int isz, .int ith, .int ico, .int icl, .int irw, .int ibi, .int ien, .int itr, .int ibl, .int ile, .int igr, .int ibk, .int ist, .int ibr])), (g1, .inl (cI, 4, .inl wd)), (g2, .inl (cI, 4, .inl hg)), (g3, .inl (cI, 576, .inl pix)), (g15, .inl (cZ, 4, .inl thr))] s.heap.size = A at hD ⊢
  have hA : ∀ q : Nat, s.heap.size ≤ q → A q := fun q h => by rw [← hAe]; exact Or.inr h
  have hS : va_S A s.heap s.heap [] := va_S.rf
  have hP : va_P D vwCl [(g0, .inr (9, [.ref g1, .ref g2, .ref g3, .ref g4, .ref g5, .ref g6, .ref g7, .ref g8, .ref g9, .ref g10, .ref g11, .ref g12, .ref g13, .ref g14, .ref g15, .int isz, .int ith, .int ico, .int icl, .int irw, .int ibi, .int ien, .int itr, .int ibl, .int ile, .int igr, .int ibk, .int ist, .int ibr])), (g1, .inl (cI, 4, .inl wd)), (g2, .inl (cI, 4, .inl hg)), (g3, .inl (cI, 576, .inl pix)), (g15, .inl (cZ, 4, .inl thr))] s.heap := hP
  have hl := lv_entry ([.ref g0, .int (nI o), .int (nI x), .int (nI y)]) (n := 4) (Nat.le_of_ble_eq_true rfl)
  rw [lg_entry_eq]
  generalize (lg_sl ([.ref g0, .int (nI o), .int (nI x), .int (nI y)]) ++ List.replicate (4 - (lg_sl ([.ref g0, .int (nI o), .int (nI x), .int (nI y)])).length) Slot.unset).toArray = ls at hl ⊢
  have hl : lv_has ls 4 [(0, .ref g0), (1, .int (nI o)), (2, .int (nI x)), (3, .int (nI y))] := hl
  refine lv_iload_n hx hb d_Model_get_0 rfl (lv_at hl 1 rfl) ?_
  refine lv_iconst (v := 0) hx hb d_Model_get_1 (by decide) ?_
  refine lv_iconst (v := 2) hx hb d_Model_get_2 (by decide) ?_
  refine cs_Si (As := [.int (nI o), .int 0, .int 2]) (rest := []) (wr := [(g0, .inr (9, [.ref g1, .ref g2, .ref g3, .ref g4, .ref g5, .ref g6, .ref g7, .ref g8, .ref g9, .ref g10, .ref g11, .ref g12, .ref g13, .ref g14, .ref g15, .int isz, .int ith, .int ico, .int icl, .int irw, .int ibi, .int ien, .int itr, .int ibl, .int ile, .int igr, .int ibk, .int ist, .int ibr])), (g1, .inl (cI, 4, .inl wd)), (g2, .inl (cI, 4, .inl hg)), (g3, .inl (cI, 576, .inl pix)), (g15, .inl (cZ, 4, .inl thr))]) ⟨hx, hb, hml, hown, hts⟩ (c_mo_in l hcI (nI o) 0 2) (va_cwS 3 hts (cs_gS mw_350 mw_351 mw_349 mw_341) rfl rfl rfl hd_Model_in ⟨Nat.le_of_ble_eq_true rfl, Nat.le_of_ble_eq_true rfl⟩) hN hK hP hD hS hA [] [0, 1, 2, 3, 4] rfl rfl rfl rfl (by decide) rfl rfl hl.1 (Nat.le_of_ble_eq_true rfl) d_Model_get_3 ⟨Nat.le_of_ble_eq_true rfl, Nat.le_of_ble_eq_true rfl⟩ (fun r1 w1 H locs hw hP hD hS => ?_)
  obtain ⟨rfl, rfl⟩ := hw
  have hP : va_P D vwCl [(g0, .inr (9, [.ref g1, .ref g2, .ref g3, .ref g4, .ref g5, .ref g6, .ref g7, .ref g8, .ref g9, .ref g10, .ref g11, .ref g12, .ref g13, .ref g14, .ref g15, .int isz, .int ith, .int ico, .int icl, .int irw, .int ibi, .int ien, .int itr, .int ibl, .int ile, .int igr, .int ibk, .int ist, .int ibr])), (g1, .inl (cI, 4, .inl wd)), (g2, .inl (cI, 4, .inl hg)), (g3, .inl (cI, 576, .inl pix)), (g15, .inl (cZ, 4, .inl thr))] H := hP
  have hD : va_D A [(g0, .inr (9, [.ref g1, .ref g2, .ref g3, .ref g4, .ref g5, .ref g6, .ref g7, .ref g8, .ref g9, .ref g10, .ref g11, .ref g12, .ref g13, .ref g14, .ref g15, .int isz, .int ith, .int ico, .int icl, .int irw, .int ibi, .int ien, .int itr, .int ibl, .int ile, .int igr, .int ibk, .int ist, .int ibr])), (g1, .inl (cI, 4, .inl wd)), (g2, .inl (cI, 4, .inl hg)), (g3, .inl (cI, 576, .inl pix)), (g15, .inl (cZ, 4, .inl thr))] := hD
  refine lv_if_ne (tgt := 15) hx hb d_Model_get_6 (by decide) (fun c_6 => ?_) (fun c_6 => ?_)
  · have c_6 := cs_b1 c_6
    refine lv_aload_n hx hb d_Model_get_15 rfl (lv_at hl 0 rfl) ?_
    refine va_get (D := D) (ci := 9) (v := .ref g15) (C := "TileForgeModel") (T := T_Model) (N := 29) hx hb hts (cs_in in_Model) hown hK hP 0 rfl rfl 14 (by decide) (hts _ (cs_m mw_433)) (fun _ h9 => h9) rfl d_Model_get_16 ?_
    refine lv_iload_n hx hb d_Model_get_19 rfl (lv_at hl 1 rfl) ?_
    refine cs_zald (j := o) hx hb hK hcZ hP 4 rfl (rfl) (by omega) (by decide) d_Model_get_20 ?_
    refine lv_if_ne (tgt := 30) hx hb d_Model_get_21 (by decide) (fun c_21 => ?_) (fun c_21 => ?_)
    · refine lv_aload_n hx hb d_Model_get_30 rfl (lv_at hl 0 rfl) ?_
      refine lv_iload_n hx hb d_Model_get_31 rfl (lv_at hl 1 rfl) ?_
      refine lv_iload_n hx hb d_Model_get_32 rfl (lv_at hl 2 rfl) ?_
      refine lv_iload_n hx hb d_Model_get_33 rfl (lv_at hl 3 rfl) ?_
      refine cs_Vi (As := [.int (nI o), .int (nI x), .int (nI y)]) (rest := []) (wr := [(g3, .inl (cI, 576, .inl pix)), (g15, .inl (cZ, 4, .inl thr))]) ⟨hx, hb, hml, hown, hts⟩ (c_mo_isIn l hcI g0 g1 g2 g3 g4 g5 g6 g7 g8 g9 g10 g11 g12 g13 g14 g15 isz ith ico icl irw ibi ien itr ibl ile igr ibk ist ibr wd hg o (nI x) (nI y) (by omega)) (cwV 3 hts (cs_gV mw_439 mw_440 mw_441 mw_349 mw_347) rfl rfl rfl ⟨rfl, hd_Model_isIn⟩ ⟨Nat.le_of_ble_eq_true rfl, Nat.le_of_ble_eq_true rfl⟩) hN hK hP hD hS hA [0, 1, 2] [3, 4] rfl rfl rfl rfl (by decide) (ci := 9) rfl rfl rfl rfl rfl hl.1 (Nat.le_of_ble_eq_true rfl) d_Model_get_34 ⟨Nat.le_of_ble_eq_true rfl, Nat.le_of_ble_eq_true rfl⟩ (fun r2 w1 H locs hw hP hD hS => ?_)
      obtain ⟨rfl, rfl⟩ := hw
      have hP : va_P D vwCl [(g3, .inl (cI, 576, .inl pix)), (g15, .inl (cZ, 4, .inl thr)), (g0, .inr (9, [.ref g1, .ref g2, .ref g3, .ref g4, .ref g5, .ref g6, .ref g7, .ref g8, .ref g9, .ref g10, .ref g11, .ref g12, .ref g13, .ref g14, .ref g15, .int isz, .int ith, .int ico, .int icl, .int irw, .int ibi, .int ien, .int itr, .int ibl, .int ile, .int igr, .int ibk, .int ist, .int ibr])), (g1, .inl (cI, 4, .inl wd)), (g2, .inl (cI, 4, .inl hg))] H := hP
      have hD : va_D A [(g3, .inl (cI, 576, .inl pix)), (g15, .inl (cZ, 4, .inl thr)), (g0, .inr (9, [.ref g1, .ref g2, .ref g3, .ref g4, .ref g5, .ref g6, .ref g7, .ref g8, .ref g9, .ref g10, .ref g11, .ref g12, .ref g13, .ref g14, .ref g15, .int isz, .int ith, .int ico, .int icl, .int irw, .int ibi, .int ien, .int itr, .int ibl, .int ile, .int igr, .int ibk, .int ist, .int ibr])), (g1, .inl (cI, 4, .inl wd)), (g2, .inl (cI, 4, .inl hg))] := hD
      refine lv_if_ne (tgt := 46) hx hb d_Model_get_37 (by decide) (fun c_37 => ?_) (fun c_37 => ?_)
      · have c_37 := cs_b1 c_37
        refine lv_aload_n hx hb d_Model_get_46 rfl (lv_at hl 0 rfl) ?_
        refine lv_iconst (v := 0) hx hb d_Model_get_47 (by decide) ?_
        refine va_put (D := D) (ci := 9) (v := .int 0) (ty := .int) (C := "TileForgeModel") (T := T_Model) (N := 29) hx hb hts (cs_in in_Model) ty_Model tok_Model nm_Model hown hK hP hD hS 2 rfl rfl 16 (by decide) (hts _ (cs_m mw_343)) (fun _ h9 => h9) rfl (by decide +kernel) rfl rfl (Nat.le_of_ble_eq_true rfl) d_Model_get_48 (fun H locs hP hD hS => ?_)
        have hP : va_P D vwCl [(g3, .inl (cI, 576, .inl pix)), (g15, .inl (cZ, 4, .inl thr)), (g0, .inr (9, [.ref g1, .ref g2, .ref g3, .ref g4, .ref g5, .ref g6, .ref g7, .ref g8, .ref g9, .ref g10, .ref g11, .ref g12, .ref g13, .ref g14, .ref g15, .int isz, .int 0, .int ico, .int icl, .int irw, .int ibi, .int ien, .int itr, .int ibl, .int ile, .int igr, .int ibk, .int ist, .int ibr])), (g1, .inl (cI, 4, .inl wd)), (g2, .inl (cI, 4, .inl hg))] H := hP
        have hD : va_D A [(g3, .inl (cI, 576, .inl pix)), (g15, .inl (cZ, 4, .inl thr)), (g0, .inr (9, [.ref g1, .ref g2, .ref g3, .ref g4, .ref g5, .ref g6, .ref g7, .ref g8, .ref g9, .ref g10, .ref g11, .ref g12, .ref g13, .ref g14, .ref g15, .int isz, .int 0, .int ico, .int icl, .int irw, .int ibi, .int ien, .int itr, .int ibl, .int ile, .int igr, .int ibk, .int ist, .int ibr])), (g1, .inl (cI, 4, .inl wd)), (g2, .inl (cI, 4, .inl hg))] := hD
        refine lv_aload_n hx hb d_Model_get_51 rfl (lv_at hl 0 rfl) ?_
        refine va_get (D := D) (ci := 9) (v := .ref g3) (C := "TileForgeModel") (T := T_Model) (N := 29) hx hb hts (cs_in in_Model) hown hK hP 2 rfl rfl 2 (by decide) (hts _ (cs_m mw_354)) (fun _ h9 => h9) rfl d_Model_get_52 ?_
        refine lv_iload_n hx hb d_Model_get_55 rfl (lv_at hl 1 rfl) ?_
        refine lv_iload_n hx hb d_Model_get_56 rfl (lv_at hl 2 rfl) ?_
        refine lv_iload_n hx hb d_Model_get_57 rfl (lv_at hl 3 rfl) ?_
        refine cs_Si (As := [.int (nI o), .int (nI x), .int (nI y)]) (rest := [.ref g3]) (wr := [(g3, .inl (cI, 576, .inl pix)), (g15, .inl (cZ, 4, .inl thr)), (g0, .inr (9, [.ref g1, .ref g2, .ref g3, .ref g4, .ref g5, .ref g6, .ref g7, .ref g8, .ref g9, .ref g10, .ref g11, .ref g12, .ref g13, .ref g14, .ref g15, .int isz, .int 0, .int ico, .int icl, .int irw, .int ibi, .int ien, .int itr, .int ibl, .int ile, .int igr, .int ibk, .int ist, .int ibr])), (g1, .inl (cI, 4, .inl wd)), (g2, .inl (cI, 4, .inl hg))]) ⟨hx, hb, hml, hown, hts⟩ (c_mo_at l hcI o x y) (va_cwS 3 hts (cs_gS mw_355 mw_356 mw_349 mw_346) rfl rfl rfl hd_Model_at ⟨Nat.le_of_ble_eq_true rfl, Nat.le_of_ble_eq_true rfl⟩) hN hK hP hD hS hA [] [0, 1, 2, 3, 4] rfl rfl rfl rfl (by decide) rfl rfl hl.1 (Nat.le_of_ble_eq_true rfl) d_Model_get_58 ⟨Nat.le_of_ble_eq_true rfl, Nat.le_of_ble_eq_true rfl⟩ (fun r3 w1 H locs hw hP hD hS => ?_)
        obtain ⟨rfl, rfl⟩ := hw
        have hP : va_P D vwCl [(g3, .inl (cI, 576, .inl pix)), (g15, .inl (cZ, 4, .inl thr)), (g0, .inr (9, [.ref g1, .ref g2, .ref g3, .ref g4, .ref g5, .ref g6, .ref g7, .ref g8, .ref g9, .ref g10, .ref g11, .ref g12, .ref g13, .ref g14, .ref g15, .int isz, .int 0, .int ico, .int icl, .int irw, .int ibi, .int ien, .int itr, .int ibl, .int ile, .int igr, .int ibk, .int ist, .int ibr])), (g1, .inl (cI, 4, .inl wd)), (g2, .inl (cI, 4, .inl hg))] H := hP
        have hD : va_D A [(g3, .inl (cI, 576, .inl pix)), (g15, .inl (cZ, 4, .inl thr)), (g0, .inr (9, [.ref g1, .ref g2, .ref g3, .ref g4, .ref g5, .ref g6, .ref g7, .ref g8, .ref g9, .ref g10, .ref g11, .ref g12, .ref g13, .ref g14, .ref g15, .int isz, .int 0, .int ico, .int icl, .int irw, .int ibi, .int ien, .int itr, .int ibl, .int ile, .int igr, .int ibk, .int ist, .int ibr])), (g1, .inl (cI, 4, .inl wd)), (g2, .inl (cI, 4, .inl hg))] := hD
        refine cs_iald (j := 144 * o + (y * 12 + x)) hx hb hK hcI hP 0 rfl (congrArg nI (by omega)) (by omega) (by decide) d_Model_get_61 ?_
        have hP := hP.sub (ws' := [(g0, .inr (9, [.ref g1, .ref g2, .ref g3, .ref g4, .ref g5, .ref g6, .ref g7, .ref g8, .ref g9, .ref g10, .ref g11, .ref g12, .ref g13, .ref g14, .ref g15, .int isz, .int 0, .int ico, .int icl, .int irw, .int ibi, .int ien, .int itr, .int ibl, .int ile, .int igr, .int ibk, .int ist, .int ibr])), (g1, .inl (cI, 4, .inl wd)), (g2, .inl (cI, 4, .inl hg)), (g3, .inl (cI, 576, .inl pix)), (g15, .inl (cZ, 4, .inl thr))]) [2, 3, 4, 0, 1] rfl
        have hD := hD.sub (ws' := [(g0, .inr (9, [.ref g1, .ref g2, .ref g3, .ref g4, .ref g5, .ref g6, .ref g7, .ref g8, .ref g9, .ref g10, .ref g11, .ref g12, .ref g13, .ref g14, .ref g15, .int isz, .int 0, .int ico, .int icl, .int irw, .int ibi, .int ien, .int itr, .int ibl, .int ile, .int igr, .int ibk, .int ist, .int ibr])), (g1, .inl (cI, 4, .inl wd)), (g2, .inl (cI, 4, .inl hg)), (g3, .inl (cI, 576, .inl pix)), (g15, .inl (cZ, 4, .inl thr))]) [2, 3, 4, 0, 1] (by decide) rfl
        exact W.iret (v := (pix (144 * o + (y * 12 + x)))) hx hb hr (fun t ht hW => ⟨⟨(pix (144 * o + (y * 12 + x))), [(g0, .inr (9, [.ref g1, .ref g2, .ref g3, .ref g4, .ref g5, .ref g6, .ref g7, .ref g8, .ref g9, .ref g10, .ref g11, .ref g12, .ref g13, .ref g14, .ref g15, .int isz, .int 0, .int ico, .int icl, .int irw, .int ibi, .int ien, .int itr, .int ibl, .int ile, .int igr, .int ibk, .int ist, .int ibr])), (g1, .inl (cI, 4, .inl wd)), (g2, .inl (cI, 4, .inl hg)), (g3, .inl (cI, 576, .inl pix)), (g15, .inl (cZ, 4, .inl thr))], rfl, ⟨(rfl), (rfl)⟩, by rw [ht]; exact hP, va_K.moved hW.alike hK, hD⟩, hS.F ht⟩) hS.2.2 d_Model_get_62
      · have c_37 := cs_b0 c_37
        exact absurd (cs_in2 hwd hx1 hpw hhg hy1 hph) c_37
    · exact absurd c_21 hth
  · have c_6 := cs_b0 c_6
    exact absurd (cs_ch ho) c_6
def q_mo_getB (cI : ClassId) (g0 : Nat) (g1 : Nat) (g2 : Nat) (g3 : Nat) (g4 : Nat) (g5 : Nat) (g6 : Nat) (g7 : Nat) (g8 : Nat) (g9 : Nat) (g10 : Nat) (g11 : Nat) (g12 : Nat) (g13 : Nat) (g14 : Nat) (g15 : Nat) (isz : Int32) (ith : Int32) (ico : Int32) (icl : Int32) (irw : Int32) (ibi : Int32) (ien : Int32) (itr : Int32) (ibl : Int32) (ile : Int32) (igr : Int32) (ibk : Int32) (ist : Int32) (ibr : Int32) (o : Int32) (x : Int32) (y : Int32) : Int32 → va_W → Prop := fun rr ww => rr = (0) ∧ ww = [(g0, .inr (9, [.ref g1, .ref g2, .ref g3, .ref g4, .ref g5, .ref g6, .ref g7, .ref g8, .ref g9, .ref g10, .ref g11, .ref g12, .ref g13, .ref g14, .ref g15, .int isz, .int 1, .int ico, .int icl, .int irw, .int ibi, .int ien, .int itr, .int ibl, .int ile, .int igr, .int ibk, .int ist, .int ibr]))]
set_option maxHeartbeats 4000000 in
set_option maxRecDepth 100000 in
theorem c_mo_getB (l : Launch) {D : va_G} {tys : List (ClassId × FieldType)} {cI : ClassId} (hcI : tys[0]? = some (cI, .int)) (g0 : Nat) (g1 : Nat) (g2 : Nat) (g3 : Nat) (g4 : Nat) (g5 : Nat) (g6 : Nat) (g7 : Nat) (g8 : Nat) (g9 : Nat) (g10 : Nat) (g11 : Nat) (g12 : Nat) (g13 : Nat) (g14 : Nat) (g15 : Nat) (isz : Int32) (ith : Int32) (ico : Int32) (icl : Int32) (irw : Int32) (ibi : Int32) (ien : Int32) (itr : Int32) (ibl : Int32) (ile : Int32) (igr : Int32) (ibk : Int32) (ist : Int32) (ibr : Int32) (o : Int32) (x : Int32) (y : Int32) (hbad : ¬ (¬ o < 0 ∧ ¬ 2 < o)) : CsI l D vwCl tys y_Model_get ws_Model_get ({ frames := 1, cells := 0, slots := 0, locals := 22 } : Room) [.ref g0, .int o, .int x, .int y] [(g0, .inr (9, [.ref g1, .ref g2, .ref g3, .ref g4, .ref g5, .ref g6, .ref g7, .ref g8, .ref g9, .ref g10, .ref g11, .ref g12, .ref g13, .ref g14, .ref g15, .int isz, .int ith, .int ico, .int icl, .int irw, .int ibi, .int ien, .int itr, .int ibl, .int ile, .int igr, .int ibk, .int ist, .int ibr]))] (q_mo_getB cI g0 g1 g2 g3 g4 g5 g6 g7 g8 g9 g10 g11 g12 g13 g14 g15 isz ith ico icl irw ibi ien itr ibl ile igr ibk ist ibr o x y) 0 0 := by
  intro sz
  refine Met.ofW (cc := prog_11_method_33_code) (maxL := 4) (ret := (some .int)) (by decide) rfl ?_
  intro p e s m args below meth c s₁ B hml hv
  obtain ⟨rfl, hsz, hP, hK, hD0, hN⟩ := hv
  have hx := B.exec
  have hb := B.bytes
  have hr := B.returns
  have hts := atoms_spec (ws := ws_Model_get) B.pre
  have hown : s.vm.findClass "TileForgeModel" = some m.cls := findClass_of_methodNamed B.named
  have hlocks := B.notSynchronized
  subst hsz
  have hD := hD0.self (sz := s.heap.size)
  generalize hAe : va_A [(g0, .inr (9, [.ref g1, .ref g2, .ref g3, .ref g4, .ref g5, .ref g6, .ref g7, .ref g8, .ref g9, .ref g10, .ref g11, .ref g12, .ref g13, .ref g14, .ref g15, .int isz, .int ith, .int ico, .int icl, .int irw, .int ibi, .int ien, .int itr, .int ibl, .int ile, .int igr, .int ibk, .int ist, .int ibr]))] s.heap.size = A at hD ⊢
  have hA : ∀ q : Nat, s.heap.size ≤ q → A q := fun q h => by rw [← hAe]; exact Or.inr h
  have hS : va_S A s.heap s.heap [] := va_S.rf
  have hP : va_P D vwCl [(g0, .inr (9, [.ref g1, .ref g2, .ref g3, .ref g4, .ref g5, .ref g6, .ref g7, .ref g8, .ref g9, .ref g10, .ref g11, .ref g12, .ref g13, .ref g14, .ref g15, .int isz, .int ith, .int ico, .int icl, .int irw, .int ibi, .int ien, .int itr, .int ibl, .int ile, .int igr, .int ibk, .int ist, .int ibr]))] s.heap := hP
  have hl := lv_entry ([.ref g0, .int o, .int x, .int y]) (n := 4) (Nat.le_of_ble_eq_true rfl)
  rw [lg_entry_eq]
  generalize (lg_sl ([.ref g0, .int o, .int x, .int y]) ++ List.replicate (4 - (lg_sl ([.ref g0, .int o, .int x, .int y])).length) Slot.unset).toArray = ls at hl ⊢
  have hl : lv_has ls 4 [(0, .ref g0), (1, .int o), (2, .int x), (3, .int y)] := hl
  refine lv_iload_n hx hb d_Model_get_0 rfl (lv_at hl 1 rfl) ?_
  refine lv_iconst (v := 0) hx hb d_Model_get_1 (by decide) ?_
  refine lv_iconst (v := 2) hx hb d_Model_get_2 (by decide) ?_
  refine cs_Si (As := [.int o, .int 0, .int 2]) (rest := []) (wr := [(g0, .inr (9, [.ref g1, .ref g2, .ref g3, .ref g4, .ref g5, .ref g6, .ref g7, .ref g8, .ref g9, .ref g10, .ref g11, .ref g12, .ref g13, .ref g14, .ref g15, .int isz, .int ith, .int ico, .int icl, .int irw, .int ibi, .int ien, .int itr, .int ibl, .int ile, .int igr, .int ibk, .int ist, .int ibr]))]) ⟨hx, hb, hml, hown, hts⟩ (c_mo_in l hcI o 0 2) (va_cwS 3 hts (cs_gS mw_350 mw_351 mw_349 mw_341) rfl rfl rfl hd_Model_in ⟨Nat.le_of_ble_eq_true rfl, Nat.le_of_ble_eq_true rfl⟩) hN hK hP hD hS hA [] [0] rfl rfl rfl rfl (by decide) rfl rfl hl.1 (Nat.le_of_ble_eq_true rfl) d_Model_get_3 ⟨Nat.le_of_ble_eq_true rfl, Nat.le_of_ble_eq_true rfl⟩ (fun r1 w1 H locs hw hP hD hS => ?_)
  obtain ⟨rfl, rfl⟩ := hw
  have hP : va_P D vwCl [(g0, .inr (9, [.ref g1, .ref g2, .ref g3, .ref g4, .ref g5, .ref g6, .ref g7, .ref g8, .ref g9, .ref g10, .ref g11, .ref g12, .ref g13, .ref g14, .ref g15, .int isz, .int ith, .int ico, .int icl, .int irw, .int ibi, .int ien, .int itr, .int ibl, .int ile, .int igr, .int ibk, .int ist, .int ibr]))] H := hP
  have hD : va_D A [(g0, .inr (9, [.ref g1, .ref g2, .ref g3, .ref g4, .ref g5, .ref g6, .ref g7, .ref g8, .ref g9, .ref g10, .ref g11, .ref g12, .ref g13, .ref g14, .ref g15, .int isz, .int ith, .int ico, .int icl, .int irw, .int ibi, .int ien, .int itr, .int ibl, .int ile, .int igr, .int ibk, .int ist, .int ibr]))] := hD
  refine lv_if_ne (tgt := 15) hx hb d_Model_get_6 (by decide) (fun c_6 => ?_) (fun c_6 => ?_)
  · have c_6 := cs_b1 c_6
    exact absurd c_6 hbad
  · have c_6 := cs_b0 c_6
    refine lv_aload_n hx hb d_Model_get_9 rfl (lv_at hl 0 rfl) ?_
    refine lv_iconst (v := 1) hx hb d_Model_get_10 (by decide) ?_
    refine cs_Vi (As := [.int 1]) (rest := []) (wr := []) ⟨hx, hb, hml, hown, hts⟩ (c_mo_fail l hcI g0 g1 g2 g3 g4 g5 g6 g7 g8 g9 g10 g11 g12 g13 g14 g15 isz ith ico icl irw ibi ien itr ibl ile igr ibk ist ibr 1) (cwV 1 hts (cs_gV mw_435 mw_436 mw_437 mw_349 mw_342) rfl rfl rfl ⟨rfl, hd_Model_fail⟩ ⟨Nat.le_of_ble_eq_true rfl, Nat.le_of_ble_eq_true rfl⟩) hN hK hP hD hS hA [0] [] rfl rfl rfl rfl (by decide) (ci := 9) rfl rfl rfl rfl rfl hl.1 (Nat.le_of_ble_eq_true rfl) d_Model_get_11 ⟨Nat.le_of_ble_eq_true rfl, Nat.le_of_ble_eq_true rfl⟩ (fun r2 w1 H locs hw hP hD hS => ?_)
    obtain ⟨rfl, rfl⟩ := hw
    have hP : va_P D vwCl [(g0, .inr (9, [.ref g1, .ref g2, .ref g3, .ref g4, .ref g5, .ref g6, .ref g7, .ref g8, .ref g9, .ref g10, .ref g11, .ref g12, .ref g13, .ref g14, .ref g15, .int isz, .int 1, .int ico, .int icl, .int irw, .int ibi, .int ien, .int itr, .int ibl, .int ile, .int igr, .int ibk, .int ist, .int ibr]))] H := hP
    have hD : va_D A [(g0, .inr (9, [.ref g1, .ref g2, .ref g3, .ref g4, .ref g5, .ref g6, .ref g7, .ref g8, .ref g9, .ref g10, .ref g11, .ref g12, .ref g13, .ref g14, .ref g15, .int isz, .int 1, .int ico, .int icl, .int irw, .int ibi, .int ien, .int itr, .int ibl, .int ile, .int igr, .int ibk, .int ist, .int ibr]))] := hD
    exact W.iret (v := 0) hx hb hr (fun t ht hW => ⟨⟨0, [(g0, .inr (9, [.ref g1, .ref g2, .ref g3, .ref g4, .ref g5, .ref g6, .ref g7, .ref g8, .ref g9, .ref g10, .ref g11, .ref g12, .ref g13, .ref g14, .ref g15, .int isz, .int 1, .int ico, .int icl, .int irw, .int ibi, .int ien, .int itr, .int ibl, .int ile, .int igr, .int ibk, .int ist, .int ibr]))], rfl, ⟨(rfl), (rfl)⟩, by rw [ht]; exact hP, va_K.moved hW.alike hK, hD⟩, hS.F ht⟩) hS.2.2 d_Model_get_14
def q_mo_getC (cI cZ : ClassId) (g0 : Nat) (g1 : Nat) (g2 : Nat) (g3 : Nat) (g4 : Nat) (g5 : Nat) (g6 : Nat) (g7 : Nat) (g8 : Nat) (g9 : Nat) (g10 : Nat) (g11 : Nat) (g12 : Nat) (g13 : Nat) (g14 : Nat) (g15 : Nat) (isz : Int32) (ith : Int32) (ico : Int32) (icl : Int32) (irw : Int32) (ibi : Int32) (ien : Int32) (itr : Int32) (ibl : Int32) (ile : Int32) (igr : Int32) (ibk : Int32) (ist : Int32) (ibr : Int32) (thr : Nat → Int32) (o : Nat) (x : Int32) (y : Int32) : Int32 → va_W → Prop := fun rr ww => rr = (0) ∧ ww = [(g0, .inr (9, [.ref g1, .ref g2, .ref g3, .ref g4, .ref g5, .ref g6, .ref g7, .ref g8, .ref g9, .ref g10, .ref g11, .ref g12, .ref g13, .ref g14, .ref g15, .int isz, .int 2, .int ico, .int icl, .int irw, .int ibi, .int ien, .int itr, .int ibl, .int ile, .int igr, .int ibk, .int ist, .int ibr])), (g15, .inl (cZ, 4, .inl thr))]
set_option maxHeartbeats 4000000 in
set_option maxRecDepth 100000 in
theorem c_mo_getC (l : Launch) {D : va_G} {tys : List (ClassId × FieldType)} {cI cZ : ClassId} (hcI : tys[0]? = some (cI, .int)) (hcZ : tys[3]? = some (cZ, .boolean)) (g0 : Nat) (g1 : Nat) (g2 : Nat) (g3 : Nat) (g4 : Nat) (g5 : Nat) (g6 : Nat) (g7 : Nat) (g8 : Nat) (g9 : Nat) (g10 : Nat) (g11 : Nat) (g12 : Nat) (g13 : Nat) (g14 : Nat) (g15 : Nat) (isz : Int32) (ith : Int32) (ico : Int32) (icl : Int32) (irw : Int32) (ibi : Int32) (ien : Int32) (itr : Int32) (ibl : Int32) (ile : Int32) (igr : Int32) (ibk : Int32) (ist : Int32) (ibr : Int32) (thr : Nat → Int32) (o : Nat) (x : Int32) (y : Int32) (ho : o ≤ 2) (hth : thr o = 0) : CsI l D vwCl tys y_Model_get ws_Model_get ({ frames := 1, cells := 0, slots := 0, locals := 22 } : Room) [.ref g0, .int (nI o), .int x, .int y] [(g0, .inr (9, [.ref g1, .ref g2, .ref g3, .ref g4, .ref g5, .ref g6, .ref g7, .ref g8, .ref g9, .ref g10, .ref g11, .ref g12, .ref g13, .ref g14, .ref g15, .int isz, .int ith, .int ico, .int icl, .int irw, .int ibi, .int ien, .int itr, .int ibl, .int ile, .int igr, .int ibk, .int ist, .int ibr])), (g15, .inl (cZ, 4, .inl thr))] (q_mo_getC cI cZ g0 g1 g2 g3 g4 g5 g6 g7 g8 g9 g10 g11 g12 g13 g14 g15 isz ith ico icl irw ibi ien itr ibl ile igr ibk ist ibr thr o x y) 0 0 := by
  intro sz
  refine Met.ofW (cc := prog_11_method_33_code) (maxL := 4) (ret := (some .int)) (by decide) rfl ?_
  intro p e s m args below meth c s₁ B hml hv
  obtain ⟨rfl, hsz, hP, hK, hD0, hN⟩ := hv
  have hx := B.exec
  have hb := B.bytes
  have hr := B.returns
  have hts := atoms_spec (ws := ws_Model_get) B.pre
  have hown : s.vm.findClass "TileForgeModel" = some m.cls := findClass_of_methodNamed B.named
  have hlocks := B.notSynchronized
  subst hsz
  have hD := hD0.self (sz := s.heap.size)
  generalize hAe : va_A [(g0, .inr (9, [.ref g1, .ref g2, .ref g3, .ref g4, .ref g5, .ref g6, .ref g7, .ref g8, .ref g9, .ref g10, .ref g11, .ref g12, .ref g13, .ref g14, .ref g15, .int isz, .int ith, .int ico, .int icl, .int irw, .int ibi, .int ien, .int itr, .int ibl, .int ile, .int igr, .int ibk, .int ist, .int ibr])), (g15, .inl (cZ, 4, .inl thr))] s.heap.size = A at hD ⊢
  have hA : ∀ q : Nat, s.heap.size ≤ q → A q := fun q h => by rw [← hAe]; exact Or.inr h
  have hS : va_S A s.heap s.heap [] := va_S.rf
  have hP : va_P D vwCl [(g0, .inr (9, [.ref g1, .ref g2, .ref g3, .ref g4, .ref g5, .ref g6, .ref g7, .ref g8, .ref g9, .ref g10, .ref g11, .ref g12, .ref g13, .ref g14, .ref g15, .int isz, .int ith, .int ico, .int icl, .int irw, .int ibi, .int ien, .int itr, .int ibl, .int ile, .int igr, .int ibk, .int ist, .int ibr])), (g15, .inl (cZ, 4, .inl thr))] s.heap := hP
  have hl := lv_entry ([.ref g0, .int (nI o), .int x, .int y]) (n := 4) (Nat.le_of_ble_eq_true rfl)
  rw [lg_entry_eq]
  generalize (lg_sl ([.ref g0, .int (nI o), .int x, .int y]) ++ List.replicate (4 - (lg_sl ([.ref g0, .int (nI o), .int x, .int y])).length) Slot.unset).toArray = ls at hl ⊢
  have hl : lv_has ls 4 [(0, .ref g0), (1, .int (nI o)), (2, .int x), (3, .int y)] := hl
  refine lv_iload_n hx hb d_Model_get_0 rfl (lv_at hl 1 rfl) ?_
  refine lv_iconst (v := 0) hx hb d_Model_get_1 (by decide) ?_
  refine lv_iconst (v := 2) hx hb d_Model_get_2 (by decide) ?_
  refine cs_Si (As := [.int (nI o), .int 0, .int 2]) (rest := []) (wr := [(g0, .inr (9, [.ref g1, .ref g2, .ref g3, .ref g4, .ref g5, .ref g6, .ref g7, .ref g8, .ref g9, .ref g10, .ref g11, .ref g12, .ref g13, .ref g14, .ref g15, .int isz, .int ith, .int ico, .int icl, .int irw, .int ibi, .int ien, .int itr, .int ibl, .int ile, .int igr, .int ibk, .int ist, .int ibr])), (g15, .inl (cZ, 4, .inl thr))]) ⟨hx, hb, hml, hown, hts⟩ (c_mo_in l hcI (nI o) 0 2) (va_cwS 3 hts (cs_gS mw_350 mw_351 mw_349 mw_341) rfl rfl rfl hd_Model_in ⟨Nat.le_of_ble_eq_true rfl, Nat.le_of_ble_eq_true rfl⟩) hN hK hP hD hS hA [] [0, 1] rfl rfl rfl rfl (by decide) rfl rfl hl.1 (Nat.le_of_ble_eq_true rfl) d_Model_get_3 ⟨Nat.le_of_ble_eq_true rfl, Nat.le_of_ble_eq_true rfl⟩ (fun r1 w1 H locs hw hP hD hS => ?_)
  obtain ⟨rfl, rfl⟩ := hw
  have hP : va_P D vwCl [(g0, .inr (9, [.ref g1, .ref g2, .ref g3, .ref g4, .ref g5, .ref g6, .ref g7, .ref g8, .ref g9, .ref g10, .ref g11, .ref g12, .ref g13, .ref g14, .ref g15, .int isz, .int ith, .int ico, .int icl, .int irw, .int ibi, .int ien, .int itr, .int ibl, .int ile, .int igr, .int ibk, .int ist, .int ibr])), (g15, .inl (cZ, 4, .inl thr))] H := hP
  have hD : va_D A [(g0, .inr (9, [.ref g1, .ref g2, .ref g3, .ref g4, .ref g5, .ref g6, .ref g7, .ref g8, .ref g9, .ref g10, .ref g11, .ref g12, .ref g13, .ref g14, .ref g15, .int isz, .int ith, .int ico, .int icl, .int irw, .int ibi, .int ien, .int itr, .int ibl, .int ile, .int igr, .int ibk, .int ist, .int ibr])), (g15, .inl (cZ, 4, .inl thr))] := hD
  refine lv_if_ne (tgt := 15) hx hb d_Model_get_6 (by decide) (fun c_6 => ?_) (fun c_6 => ?_)
  · have c_6 := cs_b1 c_6
    refine lv_aload_n hx hb d_Model_get_15 rfl (lv_at hl 0 rfl) ?_
    refine va_get (D := D) (ci := 9) (v := .ref g15) (C := "TileForgeModel") (T := T_Model) (N := 29) hx hb hts (cs_in in_Model) hown hK hP 0 rfl rfl 14 (by decide) (hts _ (cs_m mw_433)) (fun _ h9 => h9) rfl d_Model_get_16 ?_
    refine lv_iload_n hx hb d_Model_get_19 rfl (lv_at hl 1 rfl) ?_
    refine cs_zald (j := o) hx hb hK hcZ hP 1 rfl (rfl) (by omega) (by decide) d_Model_get_20 ?_
    refine lv_if_ne (tgt := 30) hx hb d_Model_get_21 (by decide) (fun c_21 => ?_) (fun c_21 => ?_)
    · exact absurd hth c_21
    · refine lv_aload_n hx hb d_Model_get_24 rfl (lv_at hl 0 rfl) ?_
      refine lv_iconst (v := 2) hx hb d_Model_get_25 (by decide) ?_
      refine cs_Vi (As := [.int 2]) (rest := []) (wr := [(g15, .inl (cZ, 4, .inl thr))]) ⟨hx, hb, hml, hown, hts⟩ (c_mo_fail l hcI g0 g1 g2 g3 g4 g5 g6 g7 g8 g9 g10 g11 g12 g13 g14 g15 isz ith ico icl irw ibi ien itr ibl ile igr ibk ist ibr 2) (cwV 1 hts (cs_gV mw_435 mw_436 mw_437 mw_349 mw_342) rfl rfl rfl ⟨rfl, hd_Model_fail⟩ ⟨Nat.le_of_ble_eq_true rfl, Nat.le_of_ble_eq_true rfl⟩) hN hK hP hD hS hA [0] [1] rfl rfl rfl rfl (by decide) (ci := 9) rfl rfl rfl rfl rfl hl.1 (Nat.le_of_ble_eq_true rfl) d_Model_get_26 ⟨Nat.le_of_ble_eq_true rfl, Nat.le_of_ble_eq_true rfl⟩ (fun r2 w1 H locs hw hP hD hS => ?_)
      obtain ⟨rfl, rfl⟩ := hw
      have hP : va_P D vwCl [(g15, .inl (cZ, 4, .inl thr)), (g0, .inr (9, [.ref g1, .ref g2, .ref g3, .ref g4, .ref g5, .ref g6, .ref g7, .ref g8, .ref g9, .ref g10, .ref g11, .ref g12, .ref g13, .ref g14, .ref g15, .int isz, .int 2, .int ico, .int icl, .int irw, .int ibi, .int ien, .int itr, .int ibl, .int ile, .int igr, .int ibk, .int ist, .int ibr]))] H := hP
      have hD : va_D A [(g15, .inl (cZ, 4, .inl thr)), (g0, .inr (9, [.ref g1, .ref g2, .ref g3, .ref g4, .ref g5, .ref g6, .ref g7, .ref g8, .ref g9, .ref g10, .ref g11, .ref g12, .ref g13, .ref g14, .ref g15, .int isz, .int 2, .int ico, .int icl, .int irw, .int ibi, .int ien, .int itr, .int ibl, .int ile, .int igr, .int ibk, .int ist, .int ibr]))] := hD
      have hP := hP.sub (ws' := [(g0, .inr (9, [.ref g1, .ref g2, .ref g3, .ref g4, .ref g5, .ref g6, .ref g7, .ref g8, .ref g9, .ref g10, .ref g11, .ref g12, .ref g13, .ref g14, .ref g15, .int isz, .int 2, .int ico, .int icl, .int irw, .int ibi, .int ien, .int itr, .int ibl, .int ile, .int igr, .int ibk, .int ist, .int ibr])), (g15, .inl (cZ, 4, .inl thr))]) [1, 0] rfl
      have hD := hD.sub (ws' := [(g0, .inr (9, [.ref g1, .ref g2, .ref g3, .ref g4, .ref g5, .ref g6, .ref g7, .ref g8, .ref g9, .ref g10, .ref g11, .ref g12, .ref g13, .ref g14, .ref g15, .int isz, .int 2, .int ico, .int icl, .int irw, .int ibi, .int ien, .int itr, .int ibl, .int ile, .int igr, .int ibk, .int ist, .int ibr])), (g15, .inl (cZ, 4, .inl thr))]) [1, 0] (by decide) rfl
      exact W.iret (v := 0) hx hb hr (fun t ht hW => ⟨⟨0, [(g0, .inr (9, [.ref g1, .ref g2, .ref g3, .ref g4, .ref g5, .ref g6, .ref g7, .ref g8, .ref g9, .ref g10, .ref g11, .ref g12, .ref g13, .ref g14, .ref g15, .int isz, .int 2, .int ico, .int icl, .int irw, .int ibi, .int ien, .int itr, .int ibl, .int ile, .int igr, .int ibk, .int ist, .int ibr])), (g15, .inl (cZ, 4, .inl thr))], rfl, ⟨(rfl), (rfl)⟩, by rw [ht]; exact hP, va_K.moved hW.alike hK, hD⟩, hS.F ht⟩) hS.2.2 d_Model_get_29
  · have c_6 := cs_b0 c_6
    exact absurd (cs_ch ho) c_6
def q_mo_getD (cI cZ : ClassId) (g0 : Nat) (g1 : Nat) (g2 : Nat) (g3 : Nat) (g4 : Nat) (g5 : Nat) (g6 : Nat) (g7 : Nat) (g8 : Nat) (g9 : Nat) (g10 : Nat) (g11 : Nat) (g12 : Nat) (g13 : Nat) (g14 : Nat) (g15 : Nat) (isz : Int32) (ith : Int32) (ico : Int32) (icl : Int32) (irw : Int32) (ibi : Int32) (ien : Int32) (itr : Int32) (ibl : Int32) (ile : Int32) (igr : Int32) (ibk : Int32) (ist : Int32) (ibr : Int32) (wd : Nat → Int32) (hg : Nat → Int32) (thr : Nat → Int32) (o : Nat) (x : Int32) (y : Int32) : Int32 → va_W → Prop := fun rr ww => rr = (0) ∧ ww = [(g0, .inr (9, [.ref g1, .ref g2, .ref g3, .ref g4, .ref g5, .ref g6, .ref g7, .ref g8, .ref g9, .ref g10, .ref g11, .ref g12, .ref g13, .ref g14, .ref g15, .int isz, .int 3, .int ico, .int icl, .int irw, .int ibi, .int ien, .int itr, .int ibl, .int ile, .int igr, .int ibk, .int ist, .int ibr])), (g1, .inl (cI, 4, .inl wd)), (g2, .inl (cI, 4, .inl hg)), (g15, .inl (cZ, 4, .inl thr))]
set_option maxHeartbeats 4000000 in
set_option maxRecDepth 100000 in
theorem c_mo_getD (l : Launch) {D : va_G} {tys : List (ClassId × FieldType)} {cI cZ : ClassId} (hcI : tys[0]? = some (cI, .int)) (hcZ : tys[3]? = some (cZ, .boolean)) (g0 : Nat) (g1 : Nat) (g2 : Nat) (g3 : Nat) (g4 : Nat) (g5 : Nat) (g6 : Nat) (g7 : Nat) (g8 : Nat) (g9 : Nat) (g10 : Nat) (g11 : Nat) (g12 : Nat) (g13 : Nat) (g14 : Nat) (g15 : Nat) (isz : Int32) (ith : Int32) (ico : Int32) (icl : Int32) (irw : Int32) (ibi : Int32) (ien : Int32) (itr : Int32) (ibl : Int32) (ile : Int32) (igr : Int32) (ibk : Int32) (ist : Int32) (ibr : Int32) (wd : Nat → Int32) (hg : Nat → Int32) (thr : Nat → Int32) (o : Nat) (x : Int32) (y : Int32) (ho : o ≤ 2) (hth : ¬ thr o = 0) (hno : ¬ ((¬ x < 0 ∧ ¬ (wd o) - 1 < x) ∧ (¬ y < 0 ∧ ¬ (hg o) - 1 < y))) : CsI l D vwCl tys y_Model_get ws_Model_get ({ frames := 2, cells := 0, slots := 0, locals := 45 } : Room) [.ref g0, .int (nI o), .int x, .int y] [(g0, .inr (9, [.ref g1, .ref g2, .ref g3, .ref g4, .ref g5, .ref g6, .ref g7, .ref g8, .ref g9, .ref g10, .ref g11, .ref g12, .ref g13, .ref g14, .ref g15, .int isz, .int ith, .int ico, .int icl, .int irw, .int ibi, .int ien, .int itr, .int ibl, .int ile, .int igr, .int ibk, .int ist, .int ibr])), (g1, .inl (cI, 4, .inl wd)), (g2, .inl (cI, 4, .inl hg)), (g15, .inl (cZ, 4, .inl thr))] (q_mo_getD cI cZ g0 g1 g2 g3 g4 g5 g6 g7 g8 g9 g10 g11 g12 g13 g14 g15 isz ith ico icl irw ibi ien itr ibl ile igr ibk ist ibr wd hg thr o x y) 0 0 := by
  intro sz
  refine Met.ofW (cc := prog_11_method_33_code) (maxL := 4) (ret := (some .int)) (by decide) rfl ?_
  intro p e s m args below meth c s₁ B hml hv
  obtain ⟨rfl, hsz, hP, hK, hD0, hN⟩ := hv
  have hx := B.exec
  have hb := B.bytes
  have hr := B.returns
  have hts := atoms_spec (ws := ws_Model_get) B.pre
  have hown : s.vm.findClass "TileForgeModel" = some m.cls := findClass_of_methodNamed B.named
  have hlocks := B.notSynchronized
  subst hsz
  have hD := hD0.self (sz := s.heap.size)
  generalize hAe : va_A [(g0, .inr (9, [.ref g1, .ref g2, .ref g3, .ref g4, .ref g5, .ref g6, .ref g7, .ref g8, .ref g9, .ref g10, .ref g11, .ref g12, .ref g13, .ref g14, .ref g15, .int isz, .int ith, .int ico, .int icl, .int irw, .int ibi, .int ien, .int itr, .int ibl, .int ile, .int igr, .int ibk, .int ist, .int ibr])), (g1, .inl (cI, 4, .inl wd)), (g2, .inl (cI, 4, .inl hg)), (g15, .inl (cZ, 4, .inl thr))] s.heap.size = A at hD ⊢
  have hA : ∀ q : Nat, s.heap.size ≤ q → A q := fun q h => by rw [← hAe]; exact Or.inr h
  have hS : va_S A s.heap s.heap [] := va_S.rf
  have hP : va_P D vwCl [(g0, .inr (9, [.ref g1, .ref g2, .ref g3, .ref g4, .ref g5, .ref g6, .ref g7, .ref g8, .ref g9, .ref g10, .ref g11, .ref g12, .ref g13, .ref g14, .ref g15, .int isz, .int ith, .int ico, .int icl, .int irw, .int ibi, .int ien, .int itr, .int ibl, .int ile, .int igr, .int ibk, .int ist, .int ibr])), (g1, .inl (cI, 4, .inl wd)), (g2, .inl (cI, 4, .inl hg)), (g15, .inl (cZ, 4, .inl thr))] s.heap := hP
  have hl := lv_entry ([.ref g0, .int (nI o), .int x, .int y]) (n := 4) (Nat.le_of_ble_eq_true rfl)
  rw [lg_entry_eq]
  generalize (lg_sl ([.ref g0, .int (nI o), .int x, .int y]) ++ List.replicate (4 - (lg_sl ([.ref g0, .int (nI o), .int x, .int y])).length) Slot.unset).toArray = ls at hl ⊢
  have hl : lv_has ls 4 [(0, .ref g0), (1, .int (nI o)), (2, .int x), (3, .int y)] := hl
  refine lv_iload_n hx hb d_Model_get_0 rfl (lv_at hl 1 rfl) ?_
  refine lv_iconst (v := 0) hx hb d_Model_get_1 (by decide) ?_
  refine lv_iconst (v := 2) hx hb d_Model_get_2 (by decide) ?_
  refine cs_Si (As := [.int (nI o), .int 0, .int 2]) (rest := []) (wr := [(g0, .inr (9, [.ref g1, .ref g2, .ref g3, .ref g4, .ref g5, .ref g6, .ref g7, .ref g8, .ref g9, .ref g10, .ref g11, .ref g12, .ref g13, .ref g14, .ref g15, .int isz, .int ith, .int ico, .int icl, .int irw, .int ibi, .int ien, .int itr, .int ibl, .int ile, .int igr, .int ibk, .int ist, .int ibr])), (g1, .inl (cI, 4, .inl wd)), (g2, .inl (cI, 4, .inl hg)), (g15, .inl (cZ, 4, .inl thr))]) ⟨hx, hb, hml, hown, hts⟩ (c_mo_in l hcI (nI o) 0 2) (va_cwS 3 hts (cs_gS mw_350 mw_351 mw_349 mw_341) rfl rfl rfl hd_Model_in ⟨Nat.le_of_ble_eq_true rfl, Nat.le_of_ble_eq_true rfl⟩) hN hK hP hD hS hA [] [0, 1, 2, 3] rfl rfl rfl rfl (by decide) rfl rfl hl.1 (Nat.le_of_ble_eq_true rfl) d_Model_get_3 ⟨Nat.le_of_ble_eq_true rfl, Nat.le_of_ble_eq_true rfl⟩ (fun r1 w1 H locs hw hP hD hS => ?_)
  obtain ⟨rfl, rfl⟩ := hw
  have hP : va_P D vwCl [(g0, .inr (9, [.ref g1, .ref g2, .ref g3, .ref g4, .ref g5, .ref g6, .ref g7, .ref g8, .ref g9, .ref g10, .ref g11, .ref g12, .ref g13, .ref g14, .ref g15, .int isz, .int ith, .int ico, .int icl, .int irw, .int ibi, .int ien, .int itr, .int ibl, .int ile, .int igr, .int ibk, .int ist, .int ibr])), (g1, .inl (cI, 4, .inl wd)), (g2, .inl (cI, 4, .inl hg)), (g15, .inl (cZ, 4, .inl thr))] H := hP
  have hD : va_D A [(g0, .inr (9, [.ref g1, .ref g2, .ref g3, .ref g4, .ref g5, .ref g6, .ref g7, .ref g8, .ref g9, .ref g10, .ref g11, .ref g12, .ref g13, .ref g14, .ref g15, .int isz, .int ith, .int ico, .int icl, .int irw, .int ibi, .int ien, .int itr, .int ibl, .int ile, .int igr, .int ibk, .int ist, .int ibr])), (g1, .inl (cI, 4, .inl wd)), (g2, .inl (cI, 4, .inl hg)), (g15, .inl (cZ, 4, .inl thr))] := hD
  refine lv_if_ne (tgt := 15) hx hb d_Model_get_6 (by decide) (fun c_6 => ?_) (fun c_6 => ?_)
  · have c_6 := cs_b1 c_6
    refine lv_aload_n hx hb d_Model_get_15 rfl (lv_at hl 0 rfl) ?_
    refine va_get (D := D) (ci := 9) (v := .ref g15) (C := "TileForgeModel") (T := T_Model) (N := 29) hx hb hts (cs_in in_Model) hown hK hP 0 rfl rfl 14 (by decide) (hts _ (cs_m mw_433)) (fun _ h9 => h9) rfl d_Model_get_16 ?_
    refine lv_iload_n hx hb d_Model_get_19 rfl (lv_at hl 1 rfl) ?_
    refine cs_zald (j := o) hx hb hK hcZ hP 3 rfl (rfl) (by omega) (by decide) d_Model_get_20 ?_
    refine lv_if_ne (tgt := 30) hx hb d_Model_get_21 (by decide) (fun c_21 => ?_) (fun c_21 => ?_)
    · refine lv_aload_n hx hb d_Model_get_30 rfl (lv_at hl 0 rfl) ?_
      refine lv_iload_n hx hb d_Model_get_31 rfl (lv_at hl 1 rfl) ?_
      refine lv_iload_n hx hb d_Model_get_32 rfl (lv_at hl 2 rfl) ?_
      refine lv_iload_n hx hb d_Model_get_33 rfl (lv_at hl 3 rfl) ?_
      refine cs_Vi (As := [.int (nI o), .int x, .int y]) (rest := []) (wr := [(g15, .inl (cZ, 4, .inl thr))]) ⟨hx, hb, hml, hown, hts⟩ (c_mo_isIn l hcI g0 g1 g2 g3 g4 g5 g6 g7 g8 g9 g10 g11 g12 g13 g14 g15 isz ith ico icl irw ibi ien itr ibl ile igr ibk ist ibr wd hg o x y (by omega)) (cwV 3 hts (cs_gV mw_439 mw_440 mw_441 mw_349 mw_347) rfl rfl rfl ⟨rfl, hd_Model_isIn⟩ ⟨Nat.le_of_ble_eq_true rfl, Nat.le_of_ble_eq_true rfl⟩) hN hK hP hD hS hA [0, 1, 2] [3] rfl rfl rfl rfl (by decide) (ci := 9) rfl rfl rfl rfl rfl hl.1 (Nat.le_of_ble_eq_true rfl) d_Model_get_34 ⟨Nat.le_of_ble_eq_true rfl, Nat.le_of_ble_eq_true rfl⟩ (fun r2 w1 H locs hw hP hD hS => ?_)
      obtain ⟨rfl, rfl⟩ := hw
      have hP : va_P D vwCl [(g15, .inl (cZ, 4, .inl thr)), (g0, .inr (9, [.ref g1, .ref g2, .ref g3, .ref g4, .ref g5, .ref g6, .ref g7, .ref g8, .ref g9, .ref g10, .ref g11, .ref g12, .ref g13, .ref g14, .ref g15, .int isz, .int ith, .int ico, .int icl, .int irw, .int ibi, .int ien, .int itr, .int ibl, .int ile, .int igr, .int ibk, .int ist, .int ibr])), (g1, .inl (cI, 4, .inl wd)), (g2, .inl (cI, 4, .inl hg))] H := hP
      have hD : va_D A [(g15, .inl (cZ, 4, .inl thr)), (g0, .inr (9, [.ref g1, .ref g2, .ref g3, .ref g4, .ref g5, .ref g6, .ref g7, .ref g8, .ref g9, .ref g10, .ref g11, .ref g12, .ref g13, .ref g14, .ref g15, .int isz, .int ith, .int ico, .int icl, .int irw, .int ibi, .int ien, .int itr, .int ibl, .int ile, .int igr, .int ibk, .int ist, .int ibr])), (g1, .inl (cI, 4, .inl wd)), (g2, .inl (cI, 4, .inl hg))] := hD
      refine lv_if_ne (tgt := 46) hx hb d_Model_get_37 (by decide) (fun c_37 => ?_) (fun c_37 => ?_)
      · have c_37 := cs_b1 c_37
        exact absurd c_37 hno
      · have c_37 := cs_b0 c_37
        refine lv_aload_n hx hb d_Model_get_40 rfl (lv_at hl 0 rfl) ?_
        refine lv_iconst (v := 3) hx hb d_Model_get_41 (by decide) ?_
        refine cs_Vi (As := [.int 3]) (rest := []) (wr := [(g15, .inl (cZ, 4, .inl thr)), (g1, .inl (cI, 4, .inl wd)), (g2, .inl (cI, 4, .inl hg))]) ⟨hx, hb, hml, hown, hts⟩ (c_mo_fail l hcI g0 g1 g2 g3 g4 g5 g6 g7 g8 g9 g10 g11 g12 g13 g14 g15 isz ith ico icl irw ibi ien itr ibl ile igr ibk ist ibr 3) (cwV 1 hts (cs_gV mw_435 mw_436 mw_437 mw_349 mw_342) rfl rfl rfl ⟨rfl, hd_Model_fail⟩ ⟨Nat.le_of_ble_eq_true rfl, Nat.le_of_ble_eq_true rfl⟩) hN hK hP hD hS hA [1] [0, 2, 3] rfl rfl rfl rfl (by decide) (ci := 9) rfl rfl rfl rfl rfl hl.1 (Nat.le_of_ble_eq_true rfl) d_Model_get_42 ⟨Nat.le_of_ble_eq_true rfl, Nat.le_of_ble_eq_true rfl⟩ (fun r3 w1 H locs hw hP hD hS => ?_)
        obtain ⟨rfl, rfl⟩ := hw
        have hP : va_P D vwCl [(g15, .inl (cZ, 4, .inl thr)), (g1, .inl (cI, 4, .inl wd)), (g2, .inl (cI, 4, .inl hg)), (g0, .inr (9, [.ref g1, .ref g2, .ref g3, .ref g4, .ref g5, .ref g6, .ref g7, .ref g8, .ref g9, .ref g10, .ref g11, .ref g12, .ref g13, .ref g14, .ref g15, .int isz, .int 3, .int ico, .int icl, .int irw, .int ibi, .int ien, .int itr, .int ibl, .int ile, .int igr, .int ibk, .int ist, .int ibr]))] H := hP
        have hD : va_D A [(g15, .inl (cZ, 4, .inl thr)), (g1, .inl (cI, 4, .inl wd)), (g2, .inl (cI, 4, .inl hg)), (g0, .inr (9, [.ref g1, .ref g2, .ref g3, .ref g4, .ref g5, .ref g6, .ref g7, .ref g8, .ref g9, .ref g10, .ref g11, .ref g12, .ref g13, .ref g14, .ref g15, .int isz, .int 3, .int ico, .int icl, .int irw, .int ibi, .int ien, .int itr, .int ibl, .int ile, .int igr, .int ibk, .int ist, .int ibr]))] := hD
        have hP := hP.sub (ws' := [(g0, .inr (9, [.ref g1, .ref g2, .ref g3, .ref g4, .ref g5, .ref g6, .ref g7, .ref g8, .ref g9, .ref g10, .ref g11, .ref g12, .ref g13, .ref g14, .ref g15, .int isz, .int 3, .int ico, .int icl, .int irw, .int ibi, .int ien, .int itr, .int ibl, .int ile, .int igr, .int ibk, .int ist, .int ibr])), (g1, .inl (cI, 4, .inl wd)), (g2, .inl (cI, 4, .inl hg)), (g15, .inl (cZ, 4, .inl thr))]) [3, 1, 2, 0] rfl
        have hD := hD.sub (ws' := [(g0, .inr (9, [.ref g1, .ref g2, .ref g3, .ref g4, .ref g5, .ref g6, .ref g7, .ref g8, .ref g9, .ref g10, .ref g11, .ref g12, .ref g13, .ref g14, .ref g15, .int isz, .int 3, .int ico, .int icl, .int irw, .int ibi, .int ien, .int itr, .int ibl, .int ile, .int igr, .int ibk, .int ist, .int ibr])), (g1, .inl (cI, 4, .inl wd)), (g2, .inl (cI, 4, .inl hg)), (g15, .inl (cZ, 4, .inl thr))]) [3, 1, 2, 0] (by decide) rfl
        exact W.iret (v := 0) hx hb hr (fun t ht hW => ⟨⟨0, [(g0, .inr (9, [.ref g1, .ref g2, .ref g3, .ref g4, .ref g5, .ref g6, .ref g7, .ref g8, .ref g9, .ref g10, .ref g11, .ref g12, .ref g13, .ref g14, .ref g15, .int isz, .int 3, .int ico, .int icl, .int irw, .int ibi, .int ien, .int itr, .int ibl, .int ile, .int igr, .int ibk, .int ist, .int ibr])), (g1, .inl (cI, 4, .inl wd)), (g2, .inl (cI, 4, .inl hg)), (g15, .inl (cZ, 4, .inl thr))], rfl, ⟨(rfl), (rfl)⟩, by rw [ht]; exact hP, va_K.moved hW.alike hK, hD⟩, hS.F ht⟩) hS.2.2 d_Model_get_45
    · exact absurd c_21 hth
  · have c_6 := cs_b0 c_6
    exact absurd (cs_ch ho) c_6
def y_Model_mode : MethodName := ⟨"TileForgeModel", "mode", "(ZI)I"⟩
def ws_Model_mode : List Cond := .code y_Model_mode prog_11_method_35_code 4 (some .int) :: GW
theorem mw_448 : (.code ⟨"TileForgeModel", "mode", "(ZI)I"⟩ prog_11_method_35_code 4 (some .int) : Cond) ∈ GW := List.mem_filter.mpr ⟨(List.mem_append_right _ (List.mem_append_right _ (List.mem_append_right _ (List.mem_append_right _ (List.mem_of_getElem? (i := 179) rfl))))), rfl⟩
theorem hd_Model_mode : y_Model_mode.cls ≠ "java/lang/invoke/MethodHandle" ∧ y_Model_mode.cls ≠ "java/lang/invoke/VarHandle" ∧ (parseMethodDescriptor y_Model_mode.desc).map (fun d => d.parameters.length) = some 2 := by decide +kernel
theorem d_Model_mode_0 : decode prog_11_method_35_code 0 = .ok (.iload_n 1, 1) := by decide +kernel
theorem d_Model_mode_1 : decode prog_11_method_35_code 1 = .ok (.ifCond .eq 10, 3) := by decide +kernel
theorem d_Model_mode_4 : decode prog_11_method_35_code 4 = .ok (.aload_n 0, 1) := by decide +kernel
theorem d_Model_mode_5 : decode prog_11_method_35_code 5 = .ok (.getfield 164, 3) := by decide +kernel
theorem d_Model_mode_8 : decode prog_11_method_35_code 8 = .ok (.goto 32, 3) := by decide +kernel
theorem d_Model_mode_11 : decode prog_11_method_35_code 11 = .ok (.aload_n 0, 1) := by decide +kernel
theorem d_Model_mode_12 : decode prog_11_method_35_code 12 = .ok (.getfield 52, 3) := by decide +kernel
theorem d_Model_mode_15 : decode prog_11_method_35_code 15 = .ok (.iconst 1, 1) := by decide +kernel
theorem d_Model_mode_16 : decode prog_11_method_35_code 16 = .ok (.baload, 1) := by decide +kernel
theorem d_Model_mode_17 : decode prog_11_method_35_code 17 = .ok (.ifCond .eq 22, 3) := by decide +kernel
theorem d_Model_mode_20 : decode prog_11_method_35_code 20 = .ok (.aload_n 0, 1) := by decide +kernel
theorem d_Model_mode_21 : decode prog_11_method_35_code 21 = .ok (.getfield 7, 3) := by decide +kernel
theorem d_Model_mode_24 : decode prog_11_method_35_code 24 = .ok (.iconst 1, 1) := by decide +kernel
theorem d_Model_mode_25 : decode prog_11_method_35_code 25 = .ok (.iaload, 1) := by decide +kernel
theorem d_Model_mode_26 : decode prog_11_method_35_code 26 = .ok (.aload_n 0, 1) := by decide +kernel
theorem d_Model_mode_27 : decode prog_11_method_35_code 27 = .ok (.getfield 13, 3) := by decide +kernel
theorem d_Model_mode_30 : decode prog_11_method_35_code 30 = .ok (.iconst 1, 1) := by decide +kernel
theorem d_Model_mode_31 : decode prog_11_method_35_code 31 = .ok (.iaload, 1) := by decide +kernel
theorem d_Model_mode_32 : decode prog_11_method_35_code 32 = .ok (.imul, 1) := by decide +kernel
theorem d_Model_mode_33 : decode prog_11_method_35_code 33 = .ok (.bipush 16, 2) := by decide +kernel
theorem d_Model_mode_35 : decode prog_11_method_35_code 35 = .ok (.idiv, 1) := by decide +kernel
theorem d_Model_mode_36 : decode prog_11_method_35_code 36 = .ok (.goto 4, 3) := by decide +kernel
theorem d_Model_mode_39 : decode prog_11_method_35_code 39 = .ok (.iconst 0, 1) := by decide +kernel
theorem d_Model_mode_40 : decode prog_11_method_35_code 40 = .ok (.istore_n 3, 1) := by decide +kernel
theorem d_Model_mode_41 : decode prog_11_method_35_code 41 = .ok (.aload_n 0, 1) := by decide +kernel
theorem d_Model_mode_42 : decode prog_11_method_35_code 42 = .ok (.iload_n 2, 1) := by decide +kernel
theorem d_Model_mode_43 : decode prog_11_method_35_code 43 = .ok (.iconst 0, 1) := by decide +kernel
theorem d_Model_mode_44 : decode prog_11_method_35_code 44 = .ok (.iload_n 3, 1) := by decide +kernel
theorem d_Model_mode_45 : decode prog_11_method_35_code 45 = .ok (.iconst 1, 1) := by decide +kernel
theorem d_Model_mode_46 : decode prog_11_method_35_code 46 = .ok (.isub, 1) := by decide +kernel
theorem d_Model_mode_47 : decode prog_11_method_35_code 47 = .ok (.invokestatic 64, 3) := by decide +kernel
theorem d_Model_mode_50 : decode prog_11_method_35_code 50 = .ok (.ifCond .eq 7, 3) := by decide +kernel
theorem d_Model_mode_53 : decode prog_11_method_35_code 53 = .ok (.iconst 0, 1) := by decide +kernel
theorem d_Model_mode_54 : decode prog_11_method_35_code 54 = .ok (.goto 4, 3) := by decide +kernel
theorem d_Model_mode_57 : decode prog_11_method_35_code 57 = .ok (.iconst 1, 1) := by decide +kernel
theorem d_Model_mode_58 : decode prog_11_method_35_code 58 = .ok (.putfield 56, 3) := by decide +kernel
theorem d_Model_mode_61 : decode prog_11_method_35_code 61 = .ok (.aload_n 0, 1) := by decide +kernel
theorem d_Model_mode_62 : decode prog_11_method_35_code 62 = .ok (.getfield 56, 3) := by decide +kernel
theorem d_Model_mode_65 : decode prog_11_method_35_code 65 = .ok (.ifCond .le 7, 3) := by decide +kernel
theorem d_Model_mode_68 : decode prog_11_method_35_code 68 = .ok (.iconst 0, 1) := by decide +kernel
theorem d_Model_mode_69 : decode prog_11_method_35_code 69 = .ok (.goto 20, 3) := by decide +kernel
theorem d_Model_mode_72 : decode prog_11_method_35_code 72 = .ok (.aload_n 0, 1) := by decide +kernel
theorem d_Model_mode_73 : decode prog_11_method_35_code 73 = .ok (.getfield 40, 3) := by decide +kernel
theorem d_Model_mode_76 : decode prog_11_method_35_code 76 = .ok (.iload_n 1, 1) := by decide +kernel
theorem d_Model_mode_77 : decode prog_11_method_35_code 77 = .ok (.ifCond .eq 10, 3) := by decide +kernel
theorem d_Model_mode_80 : decode prog_11_method_35_code 80 = .ok (.bipush 9, 2) := by decide +kernel
theorem d_Model_mode_82 : decode prog_11_method_35_code 82 = .ok (.iload_n 2, 1) := by decide +kernel
theorem d_Model_mode_83 : decode prog_11_method_35_code 83 = .ok (.iadd, 1) := by decide +kernel
theorem d_Model_mode_84 : decode prog_11_method_35_code 84 = .ok (.goto 4, 3) := by decide +kernel
theorem d_Model_mode_87 : decode prog_11_method_35_code 87 = .ok (.iload_n 2, 1) := by decide +kernel
theorem d_Model_mode_88 : decode prog_11_method_35_code 88 = .ok (.iaload, 1) := by decide +kernel
theorem d_Model_mode_89 : decode prog_11_method_35_code 89 = .ok (.ireturn, 1) := by decide +kernel
theorem mw_449 : (.fieldLink "TileForgeModel" 164 "TileForgeModel" "blocks" "I" : Cond) ∈ GW := List.mem_filter.mpr ⟨(List.mem_append_right _ (List.mem_append_right _ (List.mem_append_right _ (List.mem_append_left _ (List.mem_of_getElem? (i := 224) rfl))))), rfl⟩
def q_mo_modeR (cI : ClassId) (g0 : Nat) (g1 : Nat) (g2 : Nat) (g3 : Nat) (g4 : Nat) (g5 : Nat) (g6 : Nat) (g7 : Nat) (g8 : Nat) (g9 : Nat) (g10 : Nat) (g11 : Nat) (g12 : Nat) (g13 : Nat) (g14 : Nat) (g15 : Nat) (isz : Int32) (ith : Int32) (ico : Int32) (icl : Int32) (irw : Int32) (ibi : Int32) (ien : Int32) (itr : Int32) (ibl : Int32) (ile : Int32) (igr : Int32) (nbk : Nat) (ist : Int32) (ibr : Int32) (mds : Nat → Int32) (k : Nat) : Int32 → va_W → Prop := fun rr ww => rr = (mds (9 + k)) ∧ ww = [(g0, .inr (9, [.ref g1, .ref g2, .ref g3, .ref g4, .ref g5, .ref g6, .ref g7, .ref g8, .ref g9, .ref g10, .ref g11, .ref g12, .ref g13, .ref g14, .ref g15, .int isz, .int 0, .int ico, .int icl, .int irw, .int ibi, .int ien, .int itr, .int ibl, .int ile, .int igr, .int (nI nbk), .int ist, .int ibr])), (g11, .inl (cI, 18, .inl mds))]
set_option maxHeartbeats 4000000 in
set_option maxRecDepth 100000 in
theorem c_mo_modeR (l : Launch) {D : va_G} {tys : List (ClassId × FieldType)} {cI : ClassId} (hcI : tys[0]? = some (cI, .int)) (g0 : Nat) (g1 : Nat) (g2 : Nat) (g3 : Nat) (g4 : Nat) (g5 : Nat) (g6 : Nat) (g7 : Nat) (g8 : Nat) (g9 : Nat) (g10 : Nat) (g11 : Nat) (g12 : Nat) (g13 : Nat) (g14 : Nat) (g15 : Nat) (isz : Int32) (ith : Int32) (ico : Int32) (icl : Int32) (irw : Int32) (ibi : Int32) (ien : Int32) (itr : Int32) (ibl : Int32) (ile : Int32) (igr : Int32) (nbk : Nat) (ist : Int32) (ibr : Int32) (mds : Nat → Int32) (k : Nat) (hk : k < nbk) (hnb : nbk ≤ 9) : CsI l D vwCl tys y_Model_mode ws_Model_mode ({ frames := 1, cells := 0, slots := 0, locals := 22 } : Room) [.ref g0, .int 1, .int (nI k)] [(g0, .inr (9, [.ref g1, .ref g2, .ref g3, .ref g4, .ref g5, .ref g6, .ref g7, .ref g8, .ref g9, .ref g10, .ref g11, .ref g12, .ref g13, .ref g14, .ref g15, .int isz, .int ith, .int ico, .int icl, .int irw, .int ibi, .int ien, .int itr, .int ibl, .int ile, .int igr, .int (nI nbk), .int ist, .int ibr])), (g11, .inl (cI, 18, .inl mds))] (q_mo_modeR cI g0 g1 g2 g3 g4 g5 g6 g7 g8 g9 g10 g11 g12 g13 g14 g15 isz ith ico icl irw ibi ien itr ibl ile igr nbk ist ibr mds k) 0 0 := by
  intro sz
  refine Met.ofW (cc := prog_11_method_35_code) (maxL := 4) (ret := (some .int)) (by decide) rfl ?_
  intro p e s m args below meth c s₁ B hml hv
  obtain ⟨rfl, hsz, hP, hK, hD0, hN⟩ := hv
  have hx := B.exec
  have hb := B.bytes
  have hr := B.returns
  have hts := atoms_spec (ws := ws_Model_mode) B.pre
  have hown : s.vm.findClass "TileForgeModel" = some m.cls := findClass_of_methodNamed B.named
  have hlocks := B.notSynchronized
  subst hsz
  have hD := hD0.self (sz := s.heap.size)
  generalize hAe : va_A [(g0, .inr (9, [.ref g1, .ref g2, .ref g3, .ref g4, .ref g5, .ref g6, .ref g7, .ref g8, .ref g9, .ref g10, .ref g11, .ref g12, .ref g13, .ref g14, .ref g15, .int isz, .int ith, .int ico, .int icl, .int irw, .int ibi, .int ien, .int itr, .int ibl, .int ile, .int igr, .int (nI nbk), .int ist, .int ibr])), (g11, .inl (cI, 18, .inl mds))] s.heap.size = A at hD ⊢
  have hA : ∀ q : Nat, s.heap.size ≤ q → A q := fun q h => by rw [← hAe]; exact Or.inr h
  have hS : va_S A s.heap s.heap [] := va_S.rf
  have hP : va_P D vwCl [(g0, .inr (9, [.ref g1, .ref g2, .ref g3, .ref g4, .ref g5, .ref g6, .ref g7, .ref g8, .ref g9, .ref g10, .ref g11, .ref g12, .ref g13, .ref g14, .ref g15, .int isz, .int ith, .int ico, .int icl, .int irw, .int ibi, .int ien, .int itr, .int ibl, .int ile, .int igr, .int (nI nbk), .int ist, .int ibr])), (g11, .inl (cI, 18, .inl mds))] s.heap := hP
  have hl := lv_entry ([.ref g0, .int 1, .int (nI k)]) (n := 4) (Nat.le_of_ble_eq_true rfl)
  rw [lg_entry_eq]
  generalize (lg_sl ([.ref g0, .int 1, .int (nI k)]) ++ List.replicate (4 - (lg_sl ([.ref g0, .int 1, .int (nI k)])).length) Slot.unset).toArray = ls at hl ⊢
  have hl : lv_has ls 4 [(0, .ref g0), (1, .int 1), (2, .int (nI k))] := hl
  refine lv_iload_n hx hb d_Model_mode_0 rfl (lv_at hl 1 rfl) ?_
  refine lv_if_eq (tgt := 11) hx hb d_Model_mode_1 (by decide) (fun c_1 => ?_) (fun c_1 => ?_)
  · exact absurd c_1 (by decide)
  · refine lv_aload_n hx hb d_Model_mode_4 rfl (lv_at hl 0 rfl) ?_
    refine va_get (D := D) (ci := 9) (v := .int (nI nbk)) (C := "TileForgeModel") (T := T_Model) (N := 29) hx hb hts (cs_in in_Model) hown hK hP 0 rfl rfl 26 (by decide) (hts _ (cs_m mw_449)) (fun _ h9 => h9) rfl d_Model_mode_5 ?_
    refine lv_goto (tgt := 40) hx hb d_Model_mode_8 (by decide) ?_
    refine lv_istore_n (lv' := [(3, .int (nI nbk)), (0, .ref g0), (1, .int 1), (2, .int (nI k))]) hx hb d_Model_mode_40 rfl hl (by decide) rfl (fun ls hl => ?_)
    refine lv_aload_n hx hb d_Model_mode_41 rfl (lv_at hl 1 rfl) ?_
    refine lv_iload_n hx hb d_Model_mode_42 rfl (lv_at hl 3 rfl) ?_
    refine lv_iconst (v := 0) hx hb d_Model_mode_43 (by decide) ?_
    refine lv_iload_n hx hb d_Model_mode_44 rfl (lv_at hl 0 rfl) ?_
    refine lv_iconst (v := 1) hx hb d_Model_mode_45 (by decide) ?_
    refine lv_isub hx hb d_Model_mode_46 ?_
    refine cs_Si (As := [.int (nI k), .int 0, .int ((nI nbk) - 1)]) (rest := [.ref g0]) (wr := [(g0, .inr (9, [.ref g1, .ref g2, .ref g3, .ref g4, .ref g5, .ref g6, .ref g7, .ref g8, .ref g9, .ref g10, .ref g11, .ref g12, .ref g13, .ref g14, .ref g15, .int isz, .int ith, .int ico, .int icl, .int irw, .int ibi, .int ien, .int itr, .int ibl, .int ile, .int igr, .int (nI nbk), .int ist, .int ibr])), (g11, .inl (cI, 18, .inl mds))]) ⟨hx, hb, hml, hown, hts⟩ (c_mo_in l hcI (nI k) 0 ((nI nbk) - 1)) (va_cwS 3 hts (cs_gS mw_350 mw_351 mw_349 mw_341) rfl rfl rfl hd_Model_in ⟨Nat.le_of_ble_eq_true rfl, Nat.le_of_ble_eq_true rfl⟩) hN hK hP hD hS hA [] [0, 1] rfl rfl rfl rfl (by decide) rfl rfl hl.1 (Nat.le_of_ble_eq_true rfl) d_Model_mode_47 ⟨Nat.le_of_ble_eq_true rfl, Nat.le_of_ble_eq_true rfl⟩ (fun r1 w1 H locs hw hP hD hS => ?_)
    obtain ⟨rfl, rfl⟩ := hw
    have hP : va_P D vwCl [(g0, .inr (9, [.ref g1, .ref g2, .ref g3, .ref g4, .ref g5, .ref g6, .ref g7, .ref g8, .ref g9, .ref g10, .ref g11, .ref g12, .ref g13, .ref g14, .ref g15, .int isz, .int ith, .int ico, .int icl, .int irw, .int ibi, .int ien, .int itr, .int ibl, .int ile, .int igr, .int (nI nbk), .int ist, .int ibr])), (g11, .inl (cI, 18, .inl mds))] H := hP
    have hD : va_D A [(g0, .inr (9, [.ref g1, .ref g2, .ref g3, .ref g4, .ref g5, .ref g6, .ref g7, .ref g8, .ref g9, .ref g10, .ref g11, .ref g12, .ref g13, .ref g14, .ref g15, .int isz, .int ith, .int ico, .int icl, .int irw, .int ibi, .int ien, .int itr, .int ibl, .int ile, .int igr, .int (nI nbk), .int ist, .int ibr])), (g11, .inl (cI, 18, .inl mds))] := hD
    refine lv_if_eq (tgt := 57) hx hb d_Model_mode_50 (by decide) (fun c_50 => ?_) (fun c_50 => ?_)
    · have c_50 := cs_b0 c_50
      exact absurd (cs_inN hk (by omega)) c_50
    · have c_50 := cs_b1 c_50
      refine lv_iconst (v := 0) hx hb d_Model_mode_53 (by decide) ?_
      refine lv_goto (tgt := 58) hx hb d_Model_mode_54 (by decide) ?_
      refine va_put (D := D) (ci := 9) (v := .int 0) (ty := .int) (C := "TileForgeModel") (T := T_Model) (N := 29) hx hb hts (cs_in in_Model) ty_Model tok_Model nm_Model hown hK hP hD hS 0 rfl rfl 16 (by decide) (hts _ (cs_m mw_343)) (fun _ h9 => h9) rfl (by decide +kernel) rfl rfl (Nat.le_of_ble_eq_true rfl) d_Model_mode_58 (fun H locs hP hD hS => ?_)
      have hP : va_P D vwCl [(g0, .inr (9, [.ref g1, .ref g2, .ref g3, .ref g4, .ref g5, .ref g6, .ref g7, .ref g8, .ref g9, .ref g10, .ref g11, .ref g12, .ref g13, .ref g14, .ref g15, .int isz, .int 0, .int ico, .int icl, .int irw, .int ibi, .int ien, .int itr, .int ibl, .int ile, .int igr, .int (nI nbk), .int ist, .int ibr])), (g11, .inl (cI, 18, .inl mds))] H := hP
      have hD : va_D A [(g0, .inr (9, [.ref g1, .ref g2, .ref g3, .ref g4, .ref g5, .ref g6, .ref g7, .ref g8, .ref g9, .ref g10, .ref g11, .ref g12, .ref g13, .ref g14, .ref g15, .int isz, .int 0, .int ico, .int icl, .int irw, .int ibi, .int ien, .int itr, .int ibl, .int ile, .int igr, .int (nI nbk), .int ist, .int ibr])), (g11, .inl (cI, 18, .inl mds))] := hD
      refine lv_aload_n hx hb d_Model_mode_61 rfl (lv_at hl 1 rfl) ?_
      refine va_get (D := D) (ci := 9) (v := .int 0) (C := "TileForgeModel") (T := T_Model) (N := 29) hx hb hts (cs_in in_Model) hown hK hP 0 rfl rfl 16 (by decide) (hts _ (cs_m mw_343)) (fun _ h9 => h9) rfl d_Model_mode_62 ?_
      refine lv_if_le (tgt := 72) hx hb d_Model_mode_65 (by decide) (fun c_65 => ?_) (fun c_65 => ?_)
      · refine lv_aload_n hx hb d_Model_mode_72 rfl (lv_at hl 1 rfl) ?_
        refine va_get (D := D) (ci := 9) (v := .ref g11) (C := "TileForgeModel") (T := T_Model) (N := 29) hx hb hts (cs_in in_Model) hown hK hP 0 rfl rfl 10 (by decide) (hts _ (cs_m mw_428)) (fun _ h9 => h9) rfl d_Model_mode_73 ?_
        refine lv_iload_n hx hb d_Model_mode_76 rfl (lv_at hl 2 rfl) ?_
        refine lv_if_eq (tgt := 87) hx hb d_Model_mode_77 (by decide) (fun c_77 => ?_) (fun c_77 => ?_)
        · exact absurd c_77 (by decide)
        · refine lv_bipush (v := 9) hx hb d_Model_mode_80 (by decide) ?_
          refine lv_iload_n hx hb d_Model_mode_82 rfl (lv_at hl 3 rfl) ?_
          refine lv_iadd hx hb d_Model_mode_83 ?_
          refine lv_goto (tgt := 88) hx hb d_Model_mode_84 (by decide) ?_
          refine cs_iald (j := 9 + k) hx hb hK hcI hP 1 rfl (nI_add 9 k) (by omega) (by decide) d_Model_mode_88 ?_
          exact W.iret (v := (mds (9 + k))) hx hb hr (fun t ht hW => ⟨⟨(mds (9 + k)), [(g0, .inr (9, [.ref g1, .ref g2, .ref g3, .ref g4, .ref g5, .ref g6, .ref g7, .ref g8, .ref g9, .ref g10, .ref g11, .ref g12, .ref g13, .ref g14, .ref g15, .int isz, .int 0, .int ico, .int icl, .int irw, .int ibi, .int ien, .int itr, .int ibl, .int ile, .int igr, .int (nI nbk), .int ist, .int ibr])), (g11, .inl (cI, 18, .inl mds))], rfl, ⟨(rfl), (rfl)⟩, by rw [ht]; exact hP, va_K.moved hW.alike hK, hD⟩, hS.F ht⟩) hS.2.2 d_Model_mode_89
      · exact absurd c_65 (by decide)
def q_mo_modeRB (cI : ClassId) (g0 : Nat) (g1 : Nat) (g2 : Nat) (g3 : Nat) (g4 : Nat) (g5 : Nat) (g6 : Nat) (g7 : Nat) (g8 : Nat) (g9 : Nat) (g10 : Nat) (g11 : Nat) (g12 : Nat) (g13 : Nat) (g14 : Nat) (g15 : Nat) (isz : Int32) (ith : Int32) (ico : Int32) (icl : Int32) (irw : Int32) (ibi : Int32) (ien : Int32) (itr : Int32) (ibl : Int32) (ile : Int32) (igr : Int32) (nbk : Nat) (ist : Int32) (ibr : Int32) (k : Int32) : Int32 → va_W → Prop := fun rr ww => rr = (0) ∧ ww = [(g0, .inr (9, [.ref g1, .ref g2, .ref g3, .ref g4, .ref g5, .ref g6, .ref g7, .ref g8, .ref g9, .ref g10, .ref g11, .ref g12, .ref g13, .ref g14, .ref g15, .int isz, .int 1, .int ico, .int icl, .int irw, .int ibi, .int ien, .int itr, .int ibl, .int ile, .int igr, .int (nI nbk), .int ist, .int ibr]))]
set_option maxHeartbeats 4000000 in
set_option maxRecDepth 100000 in
theorem c_mo_modeRB (l : Launch) {D : va_G} {tys : List (ClassId × FieldType)} {cI : ClassId} (hcI : tys[0]? = some (cI, .int)) (g0 : Nat) (g1 : Nat) (g2 : Nat) (g3 : Nat) (g4 : Nat) (g5 : Nat) (g6 : Nat) (g7 : Nat) (g8 : Nat) (g9 : Nat) (g10 : Nat) (g11 : Nat) (g12 : Nat) (g13 : Nat) (g14 : Nat) (g15 : Nat) (isz : Int32) (ith : Int32) (ico : Int32) (icl : Int32) (irw : Int32) (ibi : Int32) (ien : Int32) (itr : Int32) (ibl : Int32) (ile : Int32) (igr : Int32) (nbk : Nat) (ist : Int32) (ibr : Int32) (k : Int32) (hbad : ¬ (¬ k < 0 ∧ ¬ nI nbk - 1 < k)) : CsI l D vwCl tys y_Model_mode ws_Model_mode ({ frames := 1, cells := 0, slots := 0, locals := 22 } : Room) [.ref g0, .int 1, .int k] [(g0, .inr (9, [.ref g1, .ref g2, .ref g3, .ref g4, .ref g5, .ref g6, .ref g7, .ref g8, .ref g9, .ref g10, .ref g11, .ref g12, .ref g13, .ref g14, .ref g15, .int isz, .int ith, .int ico, .int icl, .int irw, .int ibi, .int ien, .int itr, .int ibl, .int ile, .int igr, .int (nI nbk), .int ist, .int ibr]))] (q_mo_modeRB cI g0 g1 g2 g3 g4 g5 g6 g7 g8 g9 g10 g11 g12 g13 g14 g15 isz ith ico icl irw ibi ien itr ibl ile igr nbk ist ibr k) 0 0 := by
  intro sz
  refine Met.ofW (cc := prog_11_method_35_code) (maxL := 4) (ret := (some .int)) (by decide) rfl ?_
  intro p e s m args below meth c s₁ B hml hv
  obtain ⟨rfl, hsz, hP, hK, hD0, hN⟩ := hv
  have hx := B.exec
  have hb := B.bytes
  have hr := B.returns
  have hts := atoms_spec (ws := ws_Model_mode) B.pre
  have hown : s.vm.findClass "TileForgeModel" = some m.cls := findClass_of_methodNamed B.named
  have hlocks := B.notSynchronized
  subst hsz
  have hD := hD0.self (sz := s.heap.size)
  generalize hAe : va_A [(g0, .inr (9, [.ref g1, .ref g2, .ref g3, .ref g4, .ref g5, .ref g6, .ref g7, .ref g8, .ref g9, .ref g10, .ref g11, .ref g12, .ref g13, .ref g14, .ref g15, .int isz, .int ith, .int ico, .int icl, .int irw, .int ibi, .int ien, .int itr, .int ibl, .int ile, .int igr, .int (nI nbk), .int ist, .int ibr]))] s.heap.size = A at hD ⊢
  have hA : ∀ q : Nat, s.heap.size ≤ q → A q := fun q h => by rw [← hAe]; exact Or.inr h
  have hS : va_S A s.heap s.heap [] := va_S.rf
  have hP : va_P D vwCl [(g0, .inr (9, [.ref g1, .ref g2, .ref g3, .ref g4, .ref g5, .ref g6, .ref g7, .ref g8, .ref g9, .ref g10, .ref g11, .ref g12, .ref g13, .ref g14, .ref g15, .int isz, .int ith, .int ico, .int icl, .int irw, .int ibi, .int ien, .int itr, .int ibl, .int ile, .int igr, .int (nI nbk), .int ist, .int ibr]))] s.heap := hP
  have hl := lv_entry ([.ref g0, .int 1, .int k]) (n := 4) (Nat.le_of_ble_eq_true rfl)
  rw [lg_entry_eq]
  generalize (lg_sl ([.ref g0, .int 1, .int k]) ++ List.replicate (4 - (lg_sl ([.ref g0, .int 1, .int k])).length) Slot.unset).toArray = ls at hl ⊢
  have hl : lv_has ls 4 [(0, .ref g0), (1, .int 1), (2, .int k)] := hl
  refine lv_iload_n hx hb d_Model_mode_0 rfl (lv_at hl 1 rfl) ?_
  refine lv_if_eq (tgt := 11) hx hb d_Model_mode_1 (by decide) (fun c_1 => ?_) (fun c_1 => ?_)
  · exact absurd c_1 (by decide)
  · refine lv_aload_n hx hb d_Model_mode_4 rfl (lv_at hl 0 rfl) ?_
    refine va_get (D := D) (ci := 9) (v := .int (nI nbk)) (C := "TileForgeModel") (T := T_Model) (N := 29) hx hb hts (cs_in in_Model) hown hK hP 0 rfl rfl 26 (by decide) (hts _ (cs_m mw_449)) (fun _ h9 => h9) rfl d_Model_mode_5 ?_
    refine lv_goto (tgt := 40) hx hb d_Model_mode_8 (by decide) ?_
    refine lv_istore_n (lv' := [(3, .int (nI nbk)), (0, .ref g0), (1, .int 1), (2, .int k)]) hx hb d_Model_mode_40 rfl hl (by decide) rfl (fun ls hl => ?_)
    refine lv_aload_n hx hb d_Model_mode_41 rfl (lv_at hl 1 rfl) ?_
    refine lv_iload_n hx hb d_Model_mode_42 rfl (lv_at hl 3 rfl) ?_
    refine lv_iconst (v := 0) hx hb d_Model_mode_43 (by decide) ?_
    refine lv_iload_n hx hb d_Model_mode_44 rfl (lv_at hl 0 rfl) ?_
    refine lv_iconst (v := 1) hx hb d_Model_mode_45 (by decide) ?_
    refine lv_isub hx hb d_Model_mode_46 ?_
    refine cs_Si (As := [.int k, .int 0, .int ((nI nbk) - 1)]) (rest := [.ref g0]) (wr := [(g0, .inr (9, [.ref g1, .ref g2, .ref g3, .ref g4, .ref g5, .ref g6, .ref g7, .ref g8, .ref g9, .ref g10, .ref g11, .ref g12, .ref g13, .ref g14, .ref g15, .int isz, .int ith, .int ico, .int icl, .int irw, .int ibi, .int ien, .int itr, .int ibl, .int ile, .int igr, .int (nI nbk), .int ist, .int ibr]))]) ⟨hx, hb, hml, hown, hts⟩ (c_mo_in l hcI k 0 ((nI nbk) - 1)) (va_cwS 3 hts (cs_gS mw_350 mw_351 mw_349 mw_341) rfl rfl rfl hd_Model_in ⟨Nat.le_of_ble_eq_true rfl, Nat.le_of_ble_eq_true rfl⟩) hN hK hP hD hS hA [] [0] rfl rfl rfl rfl (by decide) rfl rfl hl.1 (Nat.le_of_ble_eq_true rfl) d_Model_mode_47 ⟨Nat.le_of_ble_eq_true rfl, Nat.le_of_ble_eq_true rfl⟩ (fun r1 w1 H locs hw hP hD hS => ?_)
    obtain ⟨rfl, rfl⟩ := hw
    have hP : va_P D vwCl [(g0, .inr (9, [.ref g1, .ref g2, .ref g3, .ref g4, .ref g5, .ref g6, .ref g7, .ref g8, .ref g9, .ref g10, .ref g11, .ref g12, .ref g13, .ref g14, .ref g15, .int isz, .int ith, .int ico, .int icl, .int irw, .int ibi, .int ien, .int itr, .int ibl, .int ile, .int igr, .int (nI nbk), .int ist, .int ibr]))] H := hP
    have hD : va_D A [(g0, .inr (9, [.ref g1, .ref g2, .ref g3, .ref g4, .ref g5, .ref g6, .ref g7, .ref g8, .ref g9, .ref g10, .ref g11, .ref g12, .ref g13, .ref g14, .ref g15, .int isz, .int ith, .int ico, .int icl, .int irw, .int ibi, .int ien, .int itr, .int ibl, .int ile, .int igr, .int (nI nbk), .int ist, .int ibr]))] := hD
    refine lv_if_eq (tgt := 57) hx hb d_Model_mode_50 (by decide) (fun c_50 => ?_) (fun c_50 => ?_)
    · have c_50 := cs_b0 c_50
      refine lv_iconst (v := 1) hx hb d_Model_mode_57 (by decide) ?_
      refine va_put (D := D) (ci := 9) (v := .int 1) (ty := .int) (C := "TileForgeModel") (T := T_Model) (N := 29) hx hb hts (cs_in in_Model) ty_Model tok_Model nm_Model hown hK hP hD hS 0 rfl rfl 16 (by decide) (hts _ (cs_m mw_343)) (fun _ h9 => h9) rfl (by decide +kernel) rfl rfl (Nat.le_of_ble_eq_true rfl) d_Model_mode_58 (fun H locs hP hD hS => ?_)
      have hP : va_P D vwCl [(g0, .inr (9, [.ref g1, .ref g2, .ref g3, .ref g4, .ref g5, .ref g6, .ref g7, .ref g8, .ref g9, .ref g10, .ref g11, .ref g12, .ref g13, .ref g14, .ref g15, .int isz, .int 1, .int ico, .int icl, .int irw, .int ibi, .int ien, .int itr, .int ibl, .int ile, .int igr, .int (nI nbk), .int ist, .int ibr]))] H := hP
      have hD : va_D A [(g0, .inr (9, [.ref g1, .ref g2, .ref g3, .ref g4, .ref g5, .ref g6, .ref g7, .ref g8, .ref g9, .ref g10, .ref g11, .ref g12, .ref g13, .ref g14, .ref g15, .int isz, .int 1, .int ico, .int icl, .int irw, .int ibi, .int ien, .int itr, .int ibl, .int ile, .int igr, .int (nI nbk), .int ist, .int ibr]))] := hD
      refine lv_aload_n hx hb d_Model_mode_61 rfl (lv_at hl 1 rfl) ?_
      refine va_get (D := D) (ci := 9) (v := .int 1) (C := "TileForgeModel") (T := T_Model) (N := 29) hx hb hts (cs_in in_Model) hown hK hP 0 rfl rfl 16 (by decide) (hts _ (cs_m mw_343)) (fun _ h9 => h9) rfl d_Model_mode_62 ?_
      refine lv_if_le (tgt := 72) hx hb d_Model_mode_65 (by decide) (fun c_65 => ?_) (fun c_65 => ?_)
      · exact absurd c_65 (by decide)
      · refine lv_iconst (v := 0) hx hb d_Model_mode_68 (by decide) ?_
        refine lv_goto (tgt := 89) hx hb d_Model_mode_69 (by decide) ?_
        exact W.iret (v := 0) hx hb hr (fun t ht hW => ⟨⟨0, [(g0, .inr (9, [.ref g1, .ref g2, .ref g3, .ref g4, .ref g5, .ref g6, .ref g7, .ref g8, .ref g9, .ref g10, .ref g11, .ref g12, .ref g13, .ref g14, .ref g15, .int isz, .int 1, .int ico, .int icl, .int irw, .int ibi, .int ien, .int itr, .int ibl, .int ile, .int igr, .int (nI nbk), .int ist, .int ibr]))], rfl, ⟨(rfl), (rfl)⟩, by rw [ht]; exact hP, va_K.moved hW.alike hK, hD⟩, hS.F ht⟩) hS.2.2 d_Model_mode_89
    · have c_50 := cs_b1 c_50
      exact absurd c_50 hbad
def q_mo_modeC (cI cZ : ClassId) (g0 : Nat) (g1 : Nat) (g2 : Nat) (g3 : Nat) (g4 : Nat) (g5 : Nat) (g6 : Nat) (g7 : Nat) (g8 : Nat) (g9 : Nat) (g10 : Nat) (g11 : Nat) (g12 : Nat) (g13 : Nat) (g14 : Nat) (g15 : Nat) (isz : Int32) (ith : Int32) (ico : Int32) (icl : Int32) (irw : Int32) (ibi : Int32) (ien : Int32) (itr : Int32) (ibl : Int32) (ile : Int32) (igr : Int32) (ibk : Int32) (ist : Int32) (ibr : Int32) (wd : Nat → Int32) (hg : Nat → Int32) (mds : Nat → Int32) (thr : Nat → Int32) (k : Nat) (cw : Nat) (ch : Nat) : Int32 → va_W → Prop := fun rr ww => rr = (mds k) ∧ ww = [(g0, .inr (9, [.ref g1, .ref g2, .ref g3, .ref g4, .ref g5, .ref g6, .ref g7, .ref g8, .ref g9, .ref g10, .ref g11, .ref g12, .ref g13, .ref g14, .ref g15, .int isz, .int 0, .int ico, .int icl, .int irw, .int ibi, .int ien, .int itr, .int ibl, .int ile, .int igr, .int ibk, .int ist, .int ibr])), (g1, .inl (cI, 4, .inl wd)), (g2, .inl (cI, 4, .inl hg)), (g11, .inl (cI, 18, .inl mds)), (g15, .inl (cZ, 4, .inl thr))]
set_option maxHeartbeats 4000000 in
set_option maxRecDepth 100000 in
theorem c_mo_modeC (l : Launch) {D : va_G} {tys : List (ClassId × FieldType)} {cI cZ : ClassId} (hcI : tys[0]? = some (cI, .int)) (hcZ : tys[3]? = some (cZ, .boolean)) (g0 : Nat) (g1 : Nat) (g2 : Nat) (g3 : Nat) (g4 : Nat) (g5 : Nat) (g6 : Nat) (g7 : Nat) (g8 : Nat) (g9 : Nat) (g10 : Nat) (g11 : Nat) (g12 : Nat) (g13 : Nat) (g14 : Nat) (g15 : Nat) (isz : Int32) (ith : Int32) (ico : Int32) (icl : Int32) (irw : Int32) (ibi : Int32) (ien : Int32) (itr : Int32) (ibl : Int32) (ile : Int32) (igr : Int32) (ibk : Int32) (ist : Int32) (ibr : Int32) (wd : Nat → Int32) (hg : Nat → Int32) (mds : Nat → Int32) (thr : Nat → Int32) (k : Nat) (cw : Nat) (ch : Nat) (hth : ¬ thr 1 = 0) (hwd : wd 1 = nI (4 * cw)) (hhg : hg 1 = nI (4 * ch)) (hcw : cw ≤ 3) (hch : ch ≤ 3) (hk : k < cw * ch) : CsI l D vwCl tys y_Model_mode ws_Model_mode ({ frames := 1, cells := 0, slots := 0, locals := 22 } : Room) [.ref g0, .int 0, .int (nI k)] [(g0, .inr (9, [.ref g1, .ref g2, .ref g3, .ref g4, .ref g5, .ref g6, .ref g7, .ref g8, .ref g9, .ref g10, .ref g11, .ref g12, .ref g13, .ref g14, .ref g15, .int isz, .int ith, .int ico, .int icl, .int irw, .int ibi, .int ien, .int itr, .int ibl, .int ile, .int igr, .int ibk, .int ist, .int ibr])), (g1, .inl (cI, 4, .inl wd)), (g2, .inl (cI, 4, .inl hg)), (g11, .inl (cI, 18, .inl mds)), (g15, .inl (cZ, 4, .inl thr))] (q_mo_modeC cI cZ g0 g1 g2 g3 g4 g5 g6 g7 g8 g9 g10 g11 g12 g13 g14 g15 isz ith ico icl irw ibi ien itr ibl ile igr ibk ist ibr wd hg mds thr k cw ch) 0 0 := by
  intro sz
  refine Met.ofW (cc := prog_11_method_35_code) (maxL := 4) (ret := (some .int)) (by decide) rfl ?_
  intro p e s m args below meth c s₁ B hml hv
  obtain ⟨rfl, hsz, hP, hK, hD0, hN⟩ := hv
  have hx := B.exec
  have hb := B.bytes
  have hr := B.returns
  have hts := atoms_spec (ws := ws_Model_mode) B.pre
  have hown : s.vm.findClass "TileForgeModel" = some m.cls := findClass_of_methodNamed B.named
  have hlocks := B.notSynchronized
  subst hsz
  have hD := hD0.self (sz := s.heap.size)
  generalize hAe : va_A [(g0, .inr (9, [.ref g1, .ref g2, .ref g3, .ref g4, .ref g5, .ref g6, .ref g7, .ref g8, .ref g9, .ref g10, .ref g11, .ref g12, .ref g13, .ref g14, .ref g15, .int isz, .int ith, .int ico, .int icl, .int irw, .int ibi, .int ien, .int itr, .int ibl, .int ile, .int igr, .int ibk, .int ist, .int ibr])), (g1, .inl (cI, 4, .inl wd)), (g2, .inl (cI, 4, .inl hg)), (g11, .inl (cI, 18, .inl mds)), (g15, .inl (cZ, 4, .inl thr))] s.heap.size = A at hD ⊢
  have hA : ∀ q : Nat, s.heap.size ≤ q → A q := fun q h => by rw [← hAe]; exact Or.inr h
  have hS : va_S A s.heap s.heap [] := va_S.rf
  have hP : va_P D vwCl [(g0, .inr (9, [.ref g1, .ref g2, .ref g3, .ref g4, .ref g5, .ref g6, .ref g7, .ref g8, .ref g9, .ref g10, .ref g11, .ref g12, .ref g13, .ref g14, .ref g15, .int isz, .int ith, .int ico, .int icl, .int irw, .int ibi, .int ien, .int itr, .int ibl, .int ile, .int igr, .int ibk, .int ist, .int ibr])), (g1, .inl (cI, 4, .inl wd)), (g2, .inl (cI, 4, .inl hg)), (g11, .inl (cI, 18, .inl mds)), (g15, .inl (cZ, 4, .inl thr))] s.heap := hP
  have hl := lv_entry ([.ref g0, .int 0, .int (nI k)]) (n := 4) (Nat.le_of_ble_eq_true rfl)
  rw [lg_entry_eq]
  generalize (lg_sl ([.ref g0, .int 0, .int (nI k)]) ++ List.replicate (4 - (lg_sl ([.ref g0, .int 0, .int (nI k)])).length) Slot.unset).toArray = ls at hl ⊢
  have hl : lv_has ls 4 [(0, .ref g0), (1, .int 0), (2, .int (nI k))] := hl
  have h9 : cw * ch ≤ 3 * 3 := Nat.mul_le_mul hcw hch
  refine lv_iload_n hx hb d_Model_mode_0 rfl (lv_at hl 1 rfl) ?_
  refine lv_if_eq (tgt := 11) hx hb d_Model_mode_1 (by decide) (fun c_1 => ?_) (fun c_1 => ?_)
  · refine lv_aload_n hx hb d_Model_mode_11 rfl (lv_at hl 0 rfl) ?_
    refine va_get (D := D) (ci := 9) (v := .ref g15) (C := "TileForgeModel") (T := T_Model) (N := 29) hx hb hts (cs_in in_Model) hown hK hP 0 rfl rfl 14 (by decide) (hts _ (cs_m mw_433)) (fun _ h9 => h9) rfl d_Model_mode_12 ?_
    refine lv_iconst (v := 1) hx hb d_Model_mode_15 (by decide) ?_
    refine cs_zald (j := 1) hx hb hK hcZ hP 4 rfl (rfl) (by decide) (by decide) d_Model_mode_16 ?_
    refine lv_if_eq (tgt := 39) hx hb d_Model_mode_17 (by decide) (fun c_17 => ?_) (fun c_17 => ?_)
    · exact absurd c_17 hth
    · refine lv_aload_n hx hb d_Model_mode_20 rfl (lv_at hl 0 rfl) ?_
      refine va_get (D := D) (ci := 9) (v := .ref g1) (C := "TileForgeModel") (T := T_Model) (N := 29) hx hb hts (cs_in in_Model) hown hK hP 0 rfl rfl 0 (by decide) (hts _ (cs_m mw_348)) (fun _ h9 => h9) rfl d_Model_mode_21 ?_
      refine lv_iconst (v := 1) hx hb d_Model_mode_24 (by decide) ?_
      refine cs_iald (j := 1) hx hb hK hcI hP 1 rfl (rfl) (by decide) (by decide) d_Model_mode_25 ?_
      refine lv_aload_n hx hb d_Model_mode_26 rfl (lv_at hl 0 rfl) ?_
      refine va_get (D := D) (ci := 9) (v := .ref g2) (C := "TileForgeModel") (T := T_Model) (N := 29) hx hb hts (cs_in in_Model) hown hK hP 0 rfl rfl 1 (by decide) (hts _ (cs_m mw_352)) (fun _ h9 => h9) rfl d_Model_mode_27 ?_
      refine lv_iconst (v := 1) hx hb d_Model_mode_30 (by decide) ?_
      refine cs_iald (j := 1) hx hb hK hcI hP 2 rfl (rfl) (by decide) (by decide) d_Model_mode_31 ?_
      refine lv_imul hx hb d_Model_mode_32 ?_
      refine lv_bipush (v := 16) hx hb d_Model_mode_33 (by decide) ?_
      refine lv_idiv hx hb d_Model_mode_35 (by decide) ?_
      refine cs_top (y := nI (cw * ch)) (by rw [hwd, hhg]; exact cs_wh hcw hch) ?_
      refine lv_goto (tgt := 40) hx hb d_Model_mode_36 (by decide) ?_
      refine lv_istore_n (lv' := [(3, .int (nI (cw * ch))), (0, .ref g0), (1, .int 0), (2, .int (nI k))]) hx hb d_Model_mode_40 rfl hl (by decide) rfl (fun ls hl => ?_)
      refine lv_aload_n hx hb d_Model_mode_41 rfl (lv_at hl 1 rfl) ?_
      refine lv_iload_n hx hb d_Model_mode_42 rfl (lv_at hl 3 rfl) ?_
      refine lv_iconst (v := 0) hx hb d_Model_mode_43 (by decide) ?_
      refine lv_iload_n hx hb d_Model_mode_44 rfl (lv_at hl 0 rfl) ?_
      refine lv_iconst (v := 1) hx hb d_Model_mode_45 (by decide) ?_
      refine lv_isub hx hb d_Model_mode_46 ?_
      refine cs_Si (As := [.int (nI k), .int 0, .int ((nI (cw * ch)) - 1)]) (rest := [.ref g0]) (wr := [(g0, .inr (9, [.ref g1, .ref g2, .ref g3, .ref g4, .ref g5, .ref g6, .ref g7, .ref g8, .ref g9, .ref g10, .ref g11, .ref g12, .ref g13, .ref g14, .ref g15, .int isz, .int ith, .int ico, .int icl, .int irw, .int ibi, .int ien, .int itr, .int ibl, .int ile, .int igr, .int ibk, .int ist, .int ibr])), (g1, .inl (cI, 4, .inl wd)), (g2, .inl (cI, 4, .inl hg)), (g11, .inl (cI, 18, .inl mds)), (g15, .inl (cZ, 4, .inl thr))]) ⟨hx, hb, hml, hown, hts⟩ (c_mo_in l hcI (nI k) 0 ((nI (cw * ch)) - 1)) (va_cwS 3 hts (cs_gS mw_350 mw_351 mw_349 mw_341) rfl rfl rfl hd_Model_in ⟨Nat.le_of_ble_eq_true rfl, Nat.le_of_ble_eq_true rfl⟩) hN hK hP hD hS hA [] [0, 1, 2, 3, 4] rfl rfl rfl rfl (by decide) rfl rfl hl.1 (Nat.le_of_ble_eq_true rfl) d_Model_mode_47 ⟨Nat.le_of_ble_eq_true rfl, Nat.le_of_ble_eq_true rfl⟩ (fun r1 w1 H locs hw hP hD hS => ?_)
      obtain ⟨rfl, rfl⟩ := hw
      have hP : va_P D vwCl [(g0, .inr (9, [.ref g1, .ref g2, .ref g3, .ref g4, .ref g5, .ref g6, .ref g7, .ref g8, .ref g9, .ref g10, .ref g11, .ref g12, .ref g13, .ref g14, .ref g15, .int isz, .int ith, .int ico, .int icl, .int irw, .int ibi, .int ien, .int itr, .int ibl, .int ile, .int igr, .int ibk, .int ist, .int ibr])), (g1, .inl (cI, 4, .inl wd)), (g2, .inl (cI, 4, .inl hg)), (g11, .inl (cI, 18, .inl mds)), (g15, .inl (cZ, 4, .inl thr))] H := hP
      have hD : va_D A [(g0, .inr (9, [.ref g1, .ref g2, .ref g3, .ref g4, .ref g5, .ref g6, .ref g7, .ref g8, .ref g9, .ref g10, .ref g11, .ref g12, .ref g13, .ref g14, .ref g15, .int isz, .int ith, .int ico, .int icl, .int irw, .int ibi, .int ien, .int itr, .int ibl, .int ile, .int igr, .int ibk, .int ist, .int ibr])), (g1, .inl (cI, 4, .inl wd)), (g2, .inl (cI, 4, .inl hg)), (g11, .inl (cI, 18, .inl mds)), (g15, .inl (cZ, 4, .inl thr))] := hD
      refine lv_if_eq (tgt := 57) hx hb d_Model_mode_50 (by decide) (fun c_50 => ?_) (fun c_50 => ?_)
      · have c_50 := cs_b0 c_50
        exact absurd (cs_inN hk (by omega)) c_50
      · have c_50 := cs_b1 c_50
        refine lv_iconst (v := 0) hx hb d_Model_mode_53 (by decide) ?_
        refine lv_goto (tgt := 58) hx hb d_Model_mode_54 (by decide) ?_
        refine va_put (D := D) (ci := 9) (v := .int 0) (ty := .int) (C := "TileForgeModel") (T := T_Model) (N := 29) hx hb hts (cs_in in_Model) ty_Model tok_Model nm_Model hown hK hP hD hS 0 rfl rfl 16 (by decide) (hts _ (cs_m mw_343)) (fun _ h9 => h9) rfl (by decide +kernel) rfl rfl (Nat.le_of_ble_eq_true rfl) d_Model_mode_58 (fun H locs hP hD hS => ?_)
        have hP : va_P D vwCl [(g0, .inr (9, [.ref g1, .ref g2, .ref g3, .ref g4, .ref g5, .ref g6, .ref g7, .ref g8, .ref g9, .ref g10, .ref g11, .ref g12, .ref g13, .ref g14, .ref g15, .int isz, .int 0, .int ico, .int icl, .int irw, .int ibi, .int ien, .int itr, .int ibl, .int ile, .int igr, .int ibk, .int ist, .int ibr])), (g1, .inl (cI, 4, .inl wd)), (g2, .inl (cI, 4, .inl hg)), (g11, .inl (cI, 18, .inl mds)), (g15, .inl (cZ, 4, .inl thr))] H := hP
        have hD : va_D A [(g0, .inr (9, [.ref g1, .ref g2, .ref g3, .ref g4, .ref g5, .ref g6, .ref g7, .ref g8, .ref g9, .ref g10, .ref g11, .ref g12, .ref g13, .ref g14, .ref g15, .int isz, .int 0, .int ico, .int icl, .int irw, .int ibi, .int ien, .int itr, .int ibl, .int ile, .int igr, .int ibk, .int ist, .int ibr])), (g1, .inl (cI, 4, .inl wd)), (g2, .inl (cI, 4, .inl hg)), (g11, .inl (cI, 18, .inl mds)), (g15, .inl (cZ, 4, .inl thr))] := hD
        refine lv_aload_n hx hb d_Model_mode_61 rfl (lv_at hl 1 rfl) ?_
        refine va_get (D := D) (ci := 9) (v := .int 0) (C := "TileForgeModel") (T := T_Model) (N := 29) hx hb hts (cs_in in_Model) hown hK hP 0 rfl rfl 16 (by decide) (hts _ (cs_m mw_343)) (fun _ h9 => h9) rfl d_Model_mode_62 ?_
        refine lv_if_le (tgt := 72) hx hb d_Model_mode_65 (by decide) (fun c_65 => ?_) (fun c_65 => ?_)
        · refine lv_aload_n hx hb d_Model_mode_72 rfl (lv_at hl 1 rfl) ?_
          refine va_get (D := D) (ci := 9) (v := .ref g11) (C := "TileForgeModel") (T := T_Model) (N := 29) hx hb hts (cs_in in_Model) hown hK hP 0 rfl rfl 10 (by decide) (hts _ (cs_m mw_428)) (fun _ h9 => h9) rfl d_Model_mode_73 ?_
          refine lv_iload_n hx hb d_Model_mode_76 rfl (lv_at hl 2 rfl) ?_
          refine lv_if_eq (tgt := 87) hx hb d_Model_mode_77 (by decide) (fun c_77 => ?_) (fun c_77 => ?_)
          · refine lv_iload_n hx hb d_Model_mode_87 rfl (lv_at hl 3 rfl) ?_
            refine cs_iald (j := k) hx hb hK hcI hP 3 rfl (rfl) (by omega) (by decide) d_Model_mode_88 ?_
            exact W.iret (v := (mds k)) hx hb hr (fun t ht hW => ⟨⟨(mds k), [(g0, .inr (9, [.ref g1, .ref g2, .ref g3, .ref g4, .ref g5, .ref g6, .ref g7, .ref g8, .ref g9, .ref g10, .ref g11, .ref g12, .ref g13, .ref g14, .ref g15, .int isz, .int 0, .int ico, .int icl, .int irw, .int ibi, .int ien, .int itr, .int ibl, .int ile, .int igr, .int ibk, .int ist, .int ibr])), (g1, .inl (cI, 4, .inl wd)), (g2, .inl (cI, 4, .inl hg)), (g11, .inl (cI, 18, .inl mds)), (g15, .inl (cZ, 4, .inl thr))], rfl, ⟨(rfl), (rfl)⟩, by rw [ht]; exact hP, va_K.moved hW.alike hK, hD⟩, hS.F ht⟩) hS.2.2 d_Model_mode_89
          · exact absurd c_77 (by decide)
        · exact absurd c_65 (by decide)
  · exact absurd c_1 (by decide)
def q_mo_modeCB (cI cZ : ClassId) (g0 : Nat) (g1 : Nat) (g2 : Nat) (g3 : Nat) (g4 : Nat) (g5 : Nat) (g6 : Nat) (g7 : Nat) (g8 : Nat) (g9 : Nat) (g10 : Nat) (g11 : Nat) (g12 : Nat) (g13 : Nat) (g14 : Nat) (g15 : Nat) (isz : Int32) (ith : Int32) (ico : Int32) (icl : Int32) (irw : Int32) (ibi : Int32) (ien : Int32) (itr : Int32) (ibl : Int32) (ile : Int32) (igr : Int32) (ibk : Int32) (ist : Int32) (ibr : Int32) (wd : Nat → Int32) (hg : Nat → Int32) (thr : Nat → Int32) (cw : Nat) (ch : Nat) (k : Int32) : Int32 → va_W → Prop := fun rr ww => rr = (0) ∧ ww = [(g0, .inr (9, [.ref g1, .ref g2, .ref g3, .ref g4, .ref g5, .ref g6, .ref g7, .ref g8, .ref g9, .ref g10, .ref g11, .ref g12, .ref g13, .ref g14, .ref g15, .int isz, .int 1, .int ico, .int icl, .int irw, .int ibi, .int ien, .int itr, .int ibl, .int ile, .int igr, .int ibk, .int ist, .int ibr])), (g1, .inl (cI, 4, .inl wd)), (g2, .inl (cI, 4, .inl hg)), (g15, .inl (cZ, 4, .inl thr))]
set_option maxHeartbeats 4000000 in
set_option maxRecDepth 100000 in
theorem c_mo_modeCB (l : Launch) {D : va_G} {tys : List (ClassId × FieldType)} {cI cZ : ClassId} (hcI : tys[0]? = some (cI, .int)) (hcZ : tys[3]? = some (cZ, .boolean)) (g0 : Nat) (g1 : Nat) (g2 : Nat) (g3 : Nat) (g4 : Nat) (g5 : Nat) (g6 : Nat) (g7 : Nat) (g8 : Nat) (g9 : Nat) (g10 : Nat) (g11 : Nat) (g12 : Nat) (g13 : Nat) (g14 : Nat) (g15 : Nat) (isz : Int32) (ith : Int32) (ico : Int32) (icl : Int32) (irw : Int32) (ibi : Int32) (ien : Int32) (itr : Int32) (ibl : Int32) (ile : Int32) (igr : Int32) (ibk : Int32) (ist : Int32) (ibr : Int32) (wd : Nat → Int32) (hg : Nat → Int32) (thr : Nat → Int32) (cw : Nat) (ch : Nat) (k : Int32) (hth : ¬ thr 1 = 0) (hwd : wd 1 = nI (4 * cw)) (hhg : hg 1 = nI (4 * ch)) (hcw : cw ≤ 3) (hch : ch ≤ 3) (hbad : ¬ (¬ k < 0 ∧ ¬ nI (cw * ch) - 1 < k)) : CsI l D vwCl tys y_Model_mode ws_Model_mode ({ frames := 1, cells := 0, slots := 0, locals := 22 } : Room) [.ref g0, .int 0, .int k] [(g0, .inr (9, [.ref g1, .ref g2, .ref g3, .ref g4, .ref g5, .ref g6, .ref g7, .ref g8, .ref g9, .ref g10, .ref g11, .ref g12, .ref g13, .ref g14, .ref g15, .int isz, .int ith, .int ico, .int icl, .int irw, .int ibi, .int ien, .int itr, .int ibl, .int ile, .int igr, .int ibk, .int ist, .int ibr])), (g1, .inl (cI, 4, .inl wd)), (g2, .inl (cI, 4, .inl hg)), (g15, .inl (cZ, 4, .inl thr))] (q_mo_modeCB cI cZ g0 g1 g2 g3 g4 g5 g6 g7 g8 g9 g10 g11 g12 g13 g14 g15 isz ith ico icl irw ibi ien itr ibl ile igr ibk ist ibr wd hg thr cw ch k) 0 0 := by
  intro sz
  refine Met.ofW (cc := prog_11_method_35_code) (maxL := 4) (ret := (some .int)) (by decide) rfl ?_
  intro p e s m args below meth c s₁ B hml hv
  obtain ⟨rfl, hsz, hP, hK, hD0, hN⟩ := hv
  have hx := B.exec
  have hb := B.bytes
  have hr := B.returns
  have hts := atoms_spec (ws := ws_Model_mode) B.pre
  have hown : s.vm.findClass "TileForgeModel" = some m.cls := findClass_of_methodNamed B.named
  have hlocks := B.notSynchronized
  subst hsz
  have hD := hD0.self (sz := s.heap.size)
  generalize hAe : va_A [(g0, .inr (9, [.ref g1, .ref g2, .ref g3, .ref g4, .ref g5, .ref g6, .ref g7, .ref g8, .ref g9, .ref g10, .ref g11, .ref g12, .ref g13, .ref g14, .ref g15, .int isz, .int ith, .int ico, .int icl, .int irw, .int ibi, .int ien, .int itr, .int ibl, .int ile, .int igr, .int ibk, .int ist, .int ibr])), (g1, .inl (cI, 4, .inl wd)), (g2, .inl (cI, 4, .inl hg)), (g15, .inl (cZ, 4, .inl thr))] s.heap.size = A at hD ⊢
  have hA : ∀ q : Nat, s.heap.size ≤ q → A q := fun q h => by rw [← hAe]; exact Or.inr h
  have hS : va_S A s.heap s.heap [] := va_S.rf
  have hP : va_P D vwCl [(g0, .inr (9, [.ref g1, .ref g2, .ref g3, .ref g4, .ref g5, .ref g6, .ref g7, .ref g8, .ref g9, .ref g10, .ref g11, .ref g12, .ref g13, .ref g14, .ref g15, .int isz, .int ith, .int ico, .int icl, .int irw, .int ibi, .int ien, .int itr, .int ibl, .int ile, .int igr, .int ibk, .int ist, .int ibr])), (g1, .inl (cI, 4, .inl wd)), (g2, .inl (cI, 4, .inl hg)), (g15, .inl (cZ, 4, .inl thr))] s.heap := hP
  have hl := lv_entry ([.ref g0, .int 0, .int k]) (n := 4) (Nat.le_of_ble_eq_true rfl)
  rw [lg_entry_eq]
  generalize (lg_sl ([.ref g0, .int 0, .int k]) ++ List.replicate (4 - (lg_sl ([.ref g0, .int 0, .int k])).length) Slot.unset).toArray = ls at hl ⊢
  have hl : lv_has ls 4 [(0, .ref g0), (1, .int 0), (2, .int k)] := hl
  refine lv_iload_n hx hb d_Model_mode_0 rfl (lv_at hl 1 rfl) ?_
  refine lv_if_eq (tgt := 11) hx hb d_Model_mode_1 (by decide) (fun c_1 => ?_) (fun c_1 => ?_)
  · refine lv_aload_n hx hb d_Model_mode_11 rfl (lv_at hl 0 rfl) ?_
    refine va_get (D := D) (ci := 9) (v := .ref g15) (C := "TileForgeModel") (T := T_Model) (N := 29) hx hb hts (cs_in in_Model) hown hK hP 0 rfl rfl 14 (by decide) (hts _ (cs_m mw_433)) (fun _ h9 => h9) rfl d_Model_mode_12 ?_
    refine lv_iconst (v := 1) hx hb d_Model_mode_15 (by decide) ?_
    refine cs_zald (j := 1) hx hb hK hcZ hP 3 rfl (rfl) (by decide) (by decide) d_Model_mode_16 ?_
    refine lv_if_eq (tgt := 39) hx hb d_Model_mode_17 (by decide) (fun c_17 => ?_) (fun c_17 => ?_)
    · exact absurd c_17 hth
    · refine lv_aload_n hx hb d_Model_mode_20 rfl (lv_at hl 0 rfl) ?_
      refine va_get (D := D) (ci := 9) (v := .ref g1) (C := "TileForgeModel") (T := T_Model) (N := 29) hx hb hts (cs_in in_Model) hown hK hP 0 rfl rfl 0 (by decide) (hts _ (cs_m mw_348)) (fun _ h9 => h9) rfl d_Model_mode_21 ?_
      refine lv_iconst (v := 1) hx hb d_Model_mode_24 (by decide) ?_
      refine cs_iald (j := 1) hx hb hK hcI hP 1 rfl (rfl) (by decide) (by decide) d_Model_mode_25 ?_
      refine lv_aload_n hx hb d_Model_mode_26 rfl (lv_at hl 0 rfl) ?_
      refine va_get (D := D) (ci := 9) (v := .ref g2) (C := "TileForgeModel") (T := T_Model) (N := 29) hx hb hts (cs_in in_Model) hown hK hP 0 rfl rfl 1 (by decide) (hts _ (cs_m mw_352)) (fun _ h9 => h9) rfl d_Model_mode_27 ?_
      refine lv_iconst (v := 1) hx hb d_Model_mode_30 (by decide) ?_
      refine cs_iald (j := 1) hx hb hK hcI hP 2 rfl (rfl) (by decide) (by decide) d_Model_mode_31 ?_
      refine lv_imul hx hb d_Model_mode_32 ?_
      refine lv_bipush (v := 16) hx hb d_Model_mode_33 (by decide) ?_
      refine lv_idiv hx hb d_Model_mode_35 (by decide) ?_
      refine cs_top (y := nI (cw * ch)) (by rw [hwd, hhg]; exact cs_wh hcw hch) ?_
      refine lv_goto (tgt := 40) hx hb d_Model_mode_36 (by decide) ?_
      refine lv_istore_n (lv' := [(3, .int (nI (cw * ch))), (0, .ref g0), (1, .int 0), (2, .int k)]) hx hb d_Model_mode_40 rfl hl (by decide) rfl (fun ls hl => ?_)
      refine lv_aload_n hx hb d_Model_mode_41 rfl (lv_at hl 1 rfl) ?_
      refine lv_iload_n hx hb d_Model_mode_42 rfl (lv_at hl 3 rfl) ?_
      refine lv_iconst (v := 0) hx hb d_Model_mode_43 (by decide) ?_
      refine lv_iload_n hx hb d_Model_mode_44 rfl (lv_at hl 0 rfl) ?_
      refine lv_iconst (v := 1) hx hb d_Model_mode_45 (by decide) ?_
      refine lv_isub hx hb d_Model_mode_46 ?_
      refine cs_Si (As := [.int k, .int 0, .int ((nI (cw * ch)) - 1)]) (rest := [.ref g0]) (wr := [(g0, .inr (9, [.ref g1, .ref g2, .ref g3, .ref g4, .ref g5, .ref g6, .ref g7, .ref g8, .ref g9, .ref g10, .ref g11, .ref g12, .ref g13, .ref g14, .ref g15, .int isz, .int ith, .int ico, .int icl, .int irw, .int ibi, .int ien, .int itr, .int ibl, .int ile, .int igr, .int ibk, .int ist, .int ibr])), (g1, .inl (cI, 4, .inl wd)), (g2, .inl (cI, 4, .inl hg)), (g15, .inl (cZ, 4, .inl thr))]) ⟨hx, hb, hml, hown, hts⟩ (c_mo_in l hcI k 0 ((nI (cw * ch)) - 1)) (va_cwS 3 hts (cs_gS mw_350 mw_351 mw_349 mw_341) rfl rfl rfl hd_Model_in ⟨Nat.le_of_ble_eq_true rfl, Nat.le_of_ble_eq_true rfl⟩) hN hK hP hD hS hA [] [0, 1, 2, 3] rfl rfl rfl rfl (by decide) rfl rfl hl.1 (Nat.le_of_ble_eq_true rfl) d_Model_mode_47 ⟨Nat.le_of_ble_eq_true rfl, Nat.le_of_ble_eq_true rfl⟩ (fun r1 w1 H locs hw hP hD hS => ?_)
      obtain ⟨rfl, rfl⟩ := hw
      have hP : va_P D vwCl [(g0, .inr (9, [.ref g1, .ref g2, .ref g3, .ref g4, .ref g5, .ref g6, .ref g7, .ref g8, .ref g9, .ref g10, .ref g11, .ref g12, .ref g13, .ref g14, .ref g15, .int isz, .int ith, .int ico, .int icl, .int irw, .int ibi, .int ien, .int itr, .int ibl, .int ile, .int igr, .int ibk, .int ist, .int ibr])), (g1, .inl (cI, 4, .inl wd)), (g2, .inl (cI, 4, .inl hg)), (g15, .inl (cZ, 4, .inl thr))] H := hP
      have hD : va_D A [(g0, .inr (9, [.ref g1, .ref g2, .ref g3, .ref g4, .ref g5, .ref g6, .ref g7, .ref g8, .ref g9, .ref g10, .ref g11, .ref g12, .ref g13, .ref g14, .ref g15, .int isz, .int ith, .int ico, .int icl, .int irw, .int ibi, .int ien, .int itr, .int ibl, .int ile, .int igr, .int ibk, .int ist, .int ibr])), (g1, .inl (cI, 4, .inl wd)), (g2, .inl (cI, 4, .inl hg)), (g15, .inl (cZ, 4, .inl thr))] := hD
      refine lv_if_eq (tgt := 57) hx hb d_Model_mode_50 (by decide) (fun c_50 => ?_) (fun c_50 => ?_)
      · have c_50 := cs_b0 c_50
        refine lv_iconst (v := 1) hx hb d_Model_mode_57 (by decide) ?_
        refine va_put (D := D) (ci := 9) (v := .int 1) (ty := .int) (C := "TileForgeModel") (T := T_Model) (N := 29) hx hb hts (cs_in in_Model) ty_Model tok_Model nm_Model hown hK hP hD hS 0 rfl rfl 16 (by decide) (hts _ (cs_m mw_343)) (fun _ h9 => h9) rfl (by decide +kernel) rfl rfl (Nat.le_of_ble_eq_true rfl) d_Model_mode_58 (fun H locs hP hD hS => ?_)
        have hP : va_P D vwCl [(g0, .inr (9, [.ref g1, .ref g2, .ref g3, .ref g4, .ref g5, .ref g6, .ref g7, .ref g8, .ref g9, .ref g10, .ref g11, .ref g12, .ref g13, .ref g14, .ref g15, .int isz, .int 1, .int ico, .int icl, .int irw, .int ibi, .int ien, .int itr, .int ibl, .int ile, .int igr, .int ibk, .int ist, .int ibr])), (g1, .inl (cI, 4, .inl wd)), (g2, .inl (cI, 4, .inl hg)), (g15, .inl (cZ, 4, .inl thr))] H := hP
        have hD : va_D A [(g0, .inr (9, [.ref g1, .ref g2, .ref g3, .ref g4, .ref g5, .ref g6, .ref g7, .ref g8, .ref g9, .ref g10, .ref g11, .ref g12, .ref g13, .ref g14, .ref g15, .int isz, .int 1, .int ico, .int icl, .int irw, .int ibi, .int ien, .int itr, .int ibl, .int ile, .int igr, .int ibk, .int ist, .int ibr])), (g1, .inl (cI, 4, .inl wd)), (g2, .inl (cI, 4, .inl hg)), (g15, .inl (cZ, 4, .inl thr))] := hD
        refine lv_aload_n hx hb d_Model_mode_61 rfl (lv_at hl 1 rfl) ?_
        refine va_get (D := D) (ci := 9) (v := .int 1) (C := "TileForgeModel") (T := T_Model) (N := 29) hx hb hts (cs_in in_Model) hown hK hP 0 rfl rfl 16 (by decide) (hts _ (cs_m mw_343)) (fun _ h9 => h9) rfl d_Model_mode_62 ?_
        refine lv_if_le (tgt := 72) hx hb d_Model_mode_65 (by decide) (fun c_65 => ?_) (fun c_65 => ?_)
        · exact absurd c_65 (by decide)
        · refine lv_iconst (v := 0) hx hb d_Model_mode_68 (by decide) ?_
          refine lv_goto (tgt := 89) hx hb d_Model_mode_69 (by decide) ?_
          exact W.iret (v := 0) hx hb hr (fun t ht hW => ⟨⟨0, [(g0, .inr (9, [.ref g1, .ref g2, .ref g3, .ref g4, .ref g5, .ref g6, .ref g7, .ref g8, .ref g9, .ref g10, .ref g11, .ref g12, .ref g13, .ref g14, .ref g15, .int isz, .int 1, .int ico, .int icl, .int irw, .int ibi, .int ien, .int itr, .int ibl, .int ile, .int igr, .int ibk, .int ist, .int ibr])), (g1, .inl (cI, 4, .inl wd)), (g2, .inl (cI, 4, .inl hg)), (g15, .inl (cZ, 4, .inl thr))], rfl, ⟨(rfl), (rfl)⟩, by rw [ht]; exact hP, va_K.moved hW.alike hK, hD⟩, hS.F ht⟩) hS.2.2 d_Model_mode_89
      · have c_50 := cs_b1 c_50
        exact absurd c_50 hbad
  · exact absurd c_1 (by decide)
def q_mo_modeCC (cI cZ : ClassId) (g0 : Nat) (g1 : Nat) (g2 : Nat) (g3 : Nat) (g4 : Nat) (g5 : Nat) (g6 : Nat) (g7 : Nat) (g8 : Nat) (g9 : Nat) (g10 : Nat) (g11 : Nat) (g12 : Nat) (g13 : Nat) (g14 : Nat) (g15 : Nat) (isz : Int32) (ith : Int32) (ico : Int32) (icl : Int32) (irw : Int32) (ibi : Int32) (ien : Int32) (itr : Int32) (ibl : Int32) (ile : Int32) (igr : Int32) (ibk : Int32) (ist : Int32) (ibr : Int32) (thr : Nat → Int32) (k : Int32) : Int32 → va_W → Prop := fun rr ww => rr = (0) ∧ ww = [(g0, .inr (9, [.ref g1, .ref g2, .ref g3, .ref g4, .ref g5, .ref g6, .ref g7, .ref g8, .ref g9, .ref g10, .ref g11, .ref g12, .ref g13, .ref g14, .ref g15, .int isz, .int 1, .int ico, .int icl, .int irw, .int ibi, .int ien, .int itr, .int ibl, .int ile, .int igr, .int ibk, .int ist, .int ibr])), (g15, .inl (cZ, 4, .inl thr))]
set_option maxHeartbeats 4000000 in
set_option maxRecDepth 100000 in
theorem c_mo_modeCC (l : Launch) {D : va_G} {tys : List (ClassId × FieldType)} {cI cZ : ClassId} (hcI : tys[0]? = some (cI, .int)) (hcZ : tys[3]? = some (cZ, .boolean)) (g0 : Nat) (g1 : Nat) (g2 : Nat) (g3 : Nat) (g4 : Nat) (g5 : Nat) (g6 : Nat) (g7 : Nat) (g8 : Nat) (g9 : Nat) (g10 : Nat) (g11 : Nat) (g12 : Nat) (g13 : Nat) (g14 : Nat) (g15 : Nat) (isz : Int32) (ith : Int32) (ico : Int32) (icl : Int32) (irw : Int32) (ibi : Int32) (ien : Int32) (itr : Int32) (ibl : Int32) (ile : Int32) (igr : Int32) (ibk : Int32) (ist : Int32) (ibr : Int32) (thr : Nat → Int32) (k : Int32) (hth : thr 1 = 0) : CsI l D vwCl tys y_Model_mode ws_Model_mode ({ frames := 1, cells := 0, slots := 0, locals := 22 } : Room) [.ref g0, .int 0, .int k] [(g0, .inr (9, [.ref g1, .ref g2, .ref g3, .ref g4, .ref g5, .ref g6, .ref g7, .ref g8, .ref g9, .ref g10, .ref g11, .ref g12, .ref g13, .ref g14, .ref g15, .int isz, .int ith, .int ico, .int icl, .int irw, .int ibi, .int ien, .int itr, .int ibl, .int ile, .int igr, .int ibk, .int ist, .int ibr])), (g15, .inl (cZ, 4, .inl thr))] (q_mo_modeCC cI cZ g0 g1 g2 g3 g4 g5 g6 g7 g8 g9 g10 g11 g12 g13 g14 g15 isz ith ico icl irw ibi ien itr ibl ile igr ibk ist ibr thr k) 0 0 := by
  intro sz
  refine Met.ofW (cc := prog_11_method_35_code) (maxL := 4) (ret := (some .int)) (by decide) rfl ?_
  intro p e s m args below meth c s₁ B hml hv
  obtain ⟨rfl, hsz, hP, hK, hD0, hN⟩ := hv
  have hx := B.exec
  have hb := B.bytes
  have hr := B.returns
  have hts := atoms_spec (ws := ws_Model_mode) B.pre
  have hown : s.vm.findClass "TileForgeModel" = some m.cls := findClass_of_methodNamed B.named
  have hlocks := B.notSynchronized
  subst hsz
  have hD := hD0.self (sz := s.heap.size)
  generalize hAe : va_A [(g0, .inr (9, [.ref g1, .ref g2, .ref g3, .ref g4, .ref g5, .ref g6, .ref g7, .ref g8, .ref g9, .ref g10, .ref g11, .ref g12, .ref g13, .ref g14, .ref g15, .int isz, .int ith, .int ico, .int icl, .int irw, .int ibi, .int ien, .int itr, .int ibl, .int ile, .int igr, .int ibk, .int ist, .int ibr])), (g15, .inl (cZ, 4, .inl thr))] s.heap.size = A at hD ⊢
  have hA : ∀ q : Nat, s.heap.size ≤ q → A q := fun q h => by rw [← hAe]; exact Or.inr h
  have hS : va_S A s.heap s.heap [] := va_S.rf
  have hP : va_P D vwCl [(g0, .inr (9, [.ref g1, .ref g2, .ref g3, .ref g4, .ref g5, .ref g6, .ref g7, .ref g8, .ref g9, .ref g10, .ref g11, .ref g12, .ref g13, .ref g14, .ref g15, .int isz, .int ith, .int ico, .int icl, .int irw, .int ibi, .int ien, .int itr, .int ibl, .int ile, .int igr, .int ibk, .int ist, .int ibr])), (g15, .inl (cZ, 4, .inl thr))] s.heap := hP
  have hl := lv_entry ([.ref g0, .int 0, .int k]) (n := 4) (Nat.le_of_ble_eq_true rfl)
  rw [lg_entry_eq]
  generalize (lg_sl ([.ref g0, .int 0, .int k]) ++ List.replicate (4 - (lg_sl ([.ref g0, .int 0, .int k])).length) Slot.unset).toArray = ls at hl ⊢
  have hl : lv_has ls 4 [(0, .ref g0), (1, .int 0), (2, .int k)] := hl
  refine lv_iload_n hx hb d_Model_mode_0 rfl (lv_at hl 1 rfl) ?_
  refine lv_if_eq (tgt := 11) hx hb d_Model_mode_1 (by decide) (fun c_1 => ?_) (fun c_1 => ?_)
  · refine lv_aload_n hx hb d_Model_mode_11 rfl (lv_at hl 0 rfl) ?_
    refine va_get (D := D) (ci := 9) (v := .ref g15) (C := "TileForgeModel") (T := T_Model) (N := 29) hx hb hts (cs_in in_Model) hown hK hP 0 rfl rfl 14 (by decide) (hts _ (cs_m mw_433)) (fun _ h9 => h9) rfl d_Model_mode_12 ?_
    refine lv_iconst (v := 1) hx hb d_Model_mode_15 (by decide) ?_
    refine cs_zald (j := 1) hx hb hK hcZ hP 1 rfl (rfl) (by decide) (by decide) d_Model_mode_16 ?_
    refine lv_if_eq (tgt := 39) hx hb d_Model_mode_17 (by decide) (fun c_17 => ?_) (fun c_17 => ?_)
    · refine lv_iconst (v := 0) hx hb d_Model_mode_39 (by decide) ?_
      refine lv_istore_n (lv' := [(3, .int 0), (0, .ref g0), (1, .int 0), (2, .int k)]) hx hb d_Model_mode_40 rfl hl (by decide) rfl (fun ls hl => ?_)
      refine lv_aload_n hx hb d_Model_mode_41 rfl (lv_at hl 1 rfl) ?_
      refine lv_iload_n hx hb d_Model_mode_42 rfl (lv_at hl 3 rfl) ?_
      refine lv_iconst (v := 0) hx hb d_Model_mode_43 (by decide) ?_
      refine lv_iload_n hx hb d_Model_mode_44 rfl (lv_at hl 0 rfl) ?_
      refine lv_iconst (v := 1) hx hb d_Model_mode_45 (by decide) ?_
      refine lv_isub hx hb d_Model_mode_46 ?_
      refine cs_Si (As := [.int k, .int 0, .int (0 - 1)]) (rest := [.ref g0]) (wr := [(g0, .inr (9, [.ref g1, .ref g2, .ref g3, .ref g4, .ref g5, .ref g6, .ref g7, .ref g8, .ref g9, .ref g10, .ref g11, .ref g12, .ref g13, .ref g14, .ref g15, .int isz, .int ith, .int ico, .int icl, .int irw, .int ibi, .int ien, .int itr, .int ibl, .int ile, .int igr, .int ibk, .int ist, .int ibr])), (g15, .inl (cZ, 4, .inl thr))]) ⟨hx, hb, hml, hown, hts⟩ (c_mo_in l hcI k 0 (0 - 1)) (va_cwS 3 hts (cs_gS mw_350 mw_351 mw_349 mw_341) rfl rfl rfl hd_Model_in ⟨Nat.le_of_ble_eq_true rfl, Nat.le_of_ble_eq_true rfl⟩) hN hK hP hD hS hA [] [0, 1] rfl rfl rfl rfl (by decide) rfl rfl hl.1 (Nat.le_of_ble_eq_true rfl) d_Model_mode_47 ⟨Nat.le_of_ble_eq_true rfl, Nat.le_of_ble_eq_true rfl⟩ (fun r1 w1 H locs hw hP hD hS => ?_)
      obtain ⟨rfl, rfl⟩ := hw
      have hP : va_P D vwCl [(g0, .inr (9, [.ref g1, .ref g2, .ref g3, .ref g4, .ref g5, .ref g6, .ref g7, .ref g8, .ref g9, .ref g10, .ref g11, .ref g12, .ref g13, .ref g14, .ref g15, .int isz, .int ith, .int ico, .int icl, .int irw, .int ibi, .int ien, .int itr, .int ibl, .int ile, .int igr, .int ibk, .int ist, .int ibr])), (g15, .inl (cZ, 4, .inl thr))] H := hP
      have hD : va_D A [(g0, .inr (9, [.ref g1, .ref g2, .ref g3, .ref g4, .ref g5, .ref g6, .ref g7, .ref g8, .ref g9, .ref g10, .ref g11, .ref g12, .ref g13, .ref g14, .ref g15, .int isz, .int ith, .int ico, .int icl, .int irw, .int ibi, .int ien, .int itr, .int ibl, .int ile, .int igr, .int ibk, .int ist, .int ibr])), (g15, .inl (cZ, 4, .inl thr))] := hD
      refine lv_if_eq (tgt := 57) hx hb d_Model_mode_50 (by decide) (fun c_50 => ?_) (fun c_50 => ?_)
      · have c_50 := cs_b0 c_50
        refine lv_iconst (v := 1) hx hb d_Model_mode_57 (by decide) ?_
        refine va_put (D := D) (ci := 9) (v := .int 1) (ty := .int) (C := "TileForgeModel") (T := T_Model) (N := 29) hx hb hts (cs_in in_Model) ty_Model tok_Model nm_Model hown hK hP hD hS 0 rfl rfl 16 (by decide) (hts _ (cs_m mw_343)) (fun _ h9 => h9) rfl (by decide +kernel) rfl rfl (Nat.le_of_ble_eq_true rfl) d_Model_mode_58 (fun H locs hP hD hS => ?_)
        have hP : va_P D vwCl [(g0, .inr (9, [.ref g1, .ref g2, .ref g3, .ref g4, .ref g5, .ref g6, .ref g7, .ref g8, .ref g9, .ref g10, .ref g11, .ref g12, .ref g13, .ref g14, .ref g15, .int isz, .int 1, .int ico, .int icl, .int irw, .int ibi, .int ien, .int itr, .int ibl, .int ile, .int igr, .int ibk, .int ist, .int ibr])), (g15, .inl (cZ, 4, .inl thr))] H := hP
        have hD : va_D A [(g0, .inr (9, [.ref g1, .ref g2, .ref g3, .ref g4, .ref g5, .ref g6, .ref g7, .ref g8, .ref g9, .ref g10, .ref g11, .ref g12, .ref g13, .ref g14, .ref g15, .int isz, .int 1, .int ico, .int icl, .int irw, .int ibi, .int ien, .int itr, .int ibl, .int ile, .int igr, .int ibk, .int ist, .int ibr])), (g15, .inl (cZ, 4, .inl thr))] := hD
        refine lv_aload_n hx hb d_Model_mode_61 rfl (lv_at hl 1 rfl) ?_
        refine va_get (D := D) (ci := 9) (v := .int 1) (C := "TileForgeModel") (T := T_Model) (N := 29) hx hb hts (cs_in in_Model) hown hK hP 0 rfl rfl 16 (by decide) (hts _ (cs_m mw_343)) (fun _ h9 => h9) rfl d_Model_mode_62 ?_
        refine lv_if_le (tgt := 72) hx hb d_Model_mode_65 (by decide) (fun c_65 => ?_) (fun c_65 => ?_)
        · exact absurd c_65 (by decide)
        · refine lv_iconst (v := 0) hx hb d_Model_mode_68 (by decide) ?_
          refine lv_goto (tgt := 89) hx hb d_Model_mode_69 (by decide) ?_
          exact W.iret (v := 0) hx hb hr (fun t ht hW => ⟨⟨0, [(g0, .inr (9, [.ref g1, .ref g2, .ref g3, .ref g4, .ref g5, .ref g6, .ref g7, .ref g8, .ref g9, .ref g10, .ref g11, .ref g12, .ref g13, .ref g14, .ref g15, .int isz, .int 1, .int ico, .int icl, .int irw, .int ibi, .int ien, .int itr, .int ibl, .int ile, .int igr, .int ibk, .int ist, .int ibr])), (g15, .inl (cZ, 4, .inl thr))], rfl, ⟨(rfl), (rfl)⟩, by rw [ht]; exact hP, va_K.moved hW.alike hK, hD⟩, hS.F ht⟩) hS.2.2 d_Model_mode_89
      · have c_50 := cs_b1 c_50
        exact absurd c_50 cs_in0
    · exact absurd hth c_17
  · exact absurd c_1 (by decide)
def y_Model_count : MethodName := ⟨"TileForgeModel", "count", "(I)I"⟩
def ws_Model_count : List Cond := .code y_Model_count prog_11_method_36_code 2 (some .int) :: GW
theorem mw_450 : (.code ⟨"TileForgeModel", "count", "(I)I"⟩ prog_11_method_36_code 2 (some .int) : Cond) ∈ GW := List.mem_filter.mpr ⟨(List.mem_append_right _ (List.mem_append_right _ (List.mem_append_right _ (List.mem_append_right _ (List.mem_of_getElem? (i := 183) rfl))))), rfl⟩
theorem hd_Model_count : y_Model_count.cls ≠ "java/lang/invoke/MethodHandle" ∧ y_Model_count.cls ≠ "java/lang/invoke/VarHandle" ∧ (parseMethodDescriptor y_Model_count.desc).map (fun d => d.parameters.length) = some 1 := by decide +kernel
theorem d_Model_count_0 : decode prog_11_method_36_code 0 = .ok (.iload_n 1, 1) := by decide +kernel
theorem d_Model_count_1 : decode prog_11_method_36_code 1 = .ok (.iconst 0, 1) := by decide +kernel
theorem d_Model_count_2 : decode prog_11_method_36_code 2 = .ok (.bipush 7, 2) := by decide +kernel
theorem d_Model_count_4 : decode prog_11_method_36_code 4 = .ok (.invokestatic 64, 3) := by decide +kernel
theorem d_Model_count_7 : decode prog_11_method_36_code 7 = .ok (.ifCond .ne 9, 3) := by decide +kernel
theorem d_Model_count_10 : decode prog_11_method_36_code 10 = .ok (.aload_n 0, 1) := by decide +kernel
theorem d_Model_count_11 : decode prog_11_method_36_code 11 = .ok (.iconst 1, 1) := by decide +kernel
theorem d_Model_count_12 : decode prog_11_method_36_code 12 = .ok (.invokevirtual 60, 3) := by decide +kernel
theorem d_Model_count_15 : decode prog_11_method_36_code 15 = .ok (.ireturn, 1) := by decide +kernel
theorem d_Model_count_16 : decode prog_11_method_36_code 16 = .ok (.aload_n 0, 1) := by decide +kernel
theorem d_Model_count_17 : decode prog_11_method_36_code 17 = .ok (.iconst 0, 1) := by decide +kernel
theorem d_Model_count_18 : decode prog_11_method_36_code 18 = .ok (.putfield 56, 3) := by decide +kernel
theorem d_Model_count_21 : decode prog_11_method_36_code 21 = .ok (.iload_n 1, 1) := by decide +kernel
theorem d_Model_count_22 : decode prog_11_method_36_code 22 = .ok (.tableswitch 81 0 6 #[42, 49, 56, 61, 66, 71, 76], 42) := by decide +kernel
theorem d_Model_count_64 : decode prog_11_method_36_code 64 = .ok (.aload_n 0, 1) := by decide +kernel
theorem d_Model_count_65 : decode prog_11_method_36_code 65 = .ok (.getfield 7, 3) := by decide +kernel
theorem d_Model_count_68 : decode prog_11_method_36_code 68 = .ok (.iconst 0, 1) := by decide +kernel
theorem d_Model_count_69 : decode prog_11_method_36_code 69 = .ok (.iaload, 1) := by decide +kernel
theorem d_Model_count_70 : decode prog_11_method_36_code 70 = .ok (.ireturn, 1) := by decide +kernel
theorem d_Model_count_71 : decode prog_11_method_36_code 71 = .ok (.aload_n 0, 1) := by decide +kernel
theorem d_Model_count_72 : decode prog_11_method_36_code 72 = .ok (.getfield 13, 3) := by decide +kernel
theorem d_Model_count_75 : decode prog_11_method_36_code 75 = .ok (.iconst 0, 1) := by decide +kernel
theorem d_Model_count_76 : decode prog_11_method_36_code 76 = .ok (.iaload, 1) := by decide +kernel
theorem d_Model_count_77 : decode prog_11_method_36_code 77 = .ok (.ireturn, 1) := by decide +kernel
theorem d_Model_count_78 : decode prog_11_method_36_code 78 = .ok (.aload_n 0, 1) := by decide +kernel
theorem d_Model_count_79 : decode prog_11_method_36_code 79 = .ok (.getfield 139, 3) := by decide +kernel
theorem d_Model_count_82 : decode prog_11_method_36_code 82 = .ok (.ireturn, 1) := by decide +kernel
theorem d_Model_count_83 : decode prog_11_method_36_code 83 = .ok (.aload_n 0, 1) := by decide +kernel
theorem d_Model_count_84 : decode prog_11_method_36_code 84 = .ok (.getfield 120, 3) := by decide +kernel
theorem d_Model_count_87 : decode prog_11_method_36_code 87 = .ok (.ireturn, 1) := by decide +kernel
theorem d_Model_count_88 : decode prog_11_method_36_code 88 = .ok (.aload_n 0, 1) := by decide +kernel
theorem d_Model_count_89 : decode prog_11_method_36_code 89 = .ok (.getfield 123, 3) := by decide +kernel
theorem d_Model_count_92 : decode prog_11_method_36_code 92 = .ok (.ireturn, 1) := by decide +kernel
theorem d_Model_count_93 : decode prog_11_method_36_code 93 = .ok (.aload_n 0, 1) := by decide +kernel
theorem d_Model_count_94 : decode prog_11_method_36_code 94 = .ok (.getfield 164, 3) := by decide +kernel
theorem d_Model_count_97 : decode prog_11_method_36_code 97 = .ok (.ireturn, 1) := by decide +kernel
theorem d_Model_count_98 : decode prog_11_method_36_code 98 = .ok (.aload_n 0, 1) := by decide +kernel
theorem d_Model_count_99 : decode prog_11_method_36_code 99 = .ok (.getfield 171, 3) := by decide +kernel
theorem d_Model_count_102 : decode prog_11_method_36_code 102 = .ok (.ireturn, 1) := by decide +kernel
theorem d_Model_count_103 : decode prog_11_method_36_code 103 = .ok (.aload_n 0, 1) := by decide +kernel
theorem d_Model_count_104 : decode prog_11_method_36_code 104 = .ok (.getfield 161, 3) := by decide +kernel
theorem d_Model_count_107 : decode prog_11_method_36_code 107 = .ok (.ireturn, 1) := by decide +kernel
theorem mw_451 : (.fieldLink "TileForgeModel" 139 "TileForgeModel" "bitsLaid" "I" : Cond) ∈ GW := List.mem_filter.mpr ⟨(List.mem_append_right _ (List.mem_append_right _ (List.mem_append_right _ (List.mem_append_left _ (List.mem_of_getElem? (i := 221) rfl))))), rfl⟩
theorem mw_452 : (.fieldLink "TileForgeModel" 171 "TileForgeModel" "state" "I" : Cond) ∈ GW := List.mem_filter.mpr ⟨(List.mem_append_right _ (List.mem_append_right _ (List.mem_append_right _ (List.mem_append_left _ (List.mem_of_getElem? (i := 225) rfl))))), rfl⟩
theorem mw_453 : (.fieldLink "TileForgeModel" 161 "TileForgeModel" "bitsRead" "I" : Cond) ∈ GW := List.mem_filter.mpr ⟨(List.mem_append_right _ (List.mem_append_right _ (List.mem_append_right _ (List.mem_append_left _ (List.mem_of_getElem? (i := 226) rfl))))), rfl⟩
def q_mo_count (cI : ClassId) (g0 : Nat) (g1 : Nat) (g2 : Nat) (g3 : Nat) (g4 : Nat) (g5 : Nat) (g6 : Nat) (g7 : Nat) (g8 : Nat) (g9 : Nat) (g10 : Nat) (g11 : Nat) (g12 : Nat) (g13 : Nat) (g14 : Nat) (g15 : Nat) (isz : Int32) (ith : Int32) (ico : Int32) (icl : Int32) (irw : Int32) (ibi : Int32) (ien : Int32) (itr : Int32) (ibl : Int32) (ile : Int32) (igr : Int32) (ibk : Int32) (ist : Int32) (ibr : Int32) (wd : Nat → Int32) (hg : Nat → Int32) (wt : Int32) : Int32 → va_W → Prop := fun rr ww => rr = (if wt = 0 then wd 0 else if wt = 1 then hg 0 else if wt = 2 then ibl else if wt = 3 then ile else if wt = 4 then igr else if wt = 5 then ibk else if wt = 6 then ist else ibr) ∧ ww = [(g0, .inr (9, [.ref g1, .ref g2, .ref g3, .ref g4, .ref g5, .ref g6, .ref g7, .ref g8, .ref g9, .ref g10, .ref g11, .ref g12, .ref g13, .ref g14, .ref g15, .int isz, .int 0, .int ico, .int icl, .int irw, .int ibi, .int ien, .int itr, .int ibl, .int ile, .int igr, .int ibk, .int ist, .int ibr])), (g1, .inl (cI, 4, .inl wd)), (g2, .inl (cI, 4, .inl hg))]
set_option maxHeartbeats 4000000 in
set_option maxRecDepth 100000 in
theorem c_mo_count (l : Launch) {D : va_G} {tys : List (ClassId × FieldType)} {cI : ClassId} (hcI : tys[0]? = some (cI, .int)) (g0 : Nat) (g1 : Nat) (g2 : Nat) (g3 : Nat) (g4 : Nat) (g5 : Nat) (g6 : Nat) (g7 : Nat) (g8 : Nat) (g9 : Nat) (g10 : Nat) (g11 : Nat) (g12 : Nat) (g13 : Nat) (g14 : Nat) (g15 : Nat) (isz : Int32) (ith : Int32) (ico : Int32) (icl : Int32) (irw : Int32) (ibi : Int32) (ien : Int32) (itr : Int32) (ibl : Int32) (ile : Int32) (igr : Int32) (ibk : Int32) (ist : Int32) (ibr : Int32) (wd : Nat → Int32) (hg : Nat → Int32) (wt : Int32) (hwt : ¬ wt < 0 ∧ ¬ 7 < wt) : CsI l D vwCl tys y_Model_count ws_Model_count ({ frames := 1, cells := 0, slots := 0, locals := 22 } : Room) [.ref g0, .int wt] [(g0, .inr (9, [.ref g1, .ref g2, .ref g3, .ref g4, .ref g5, .ref g6, .ref g7, .ref g8, .ref g9, .ref g10, .ref g11, .ref g12, .ref g13, .ref g14, .ref g15, .int isz, .int ith, .int ico, .int icl, .int irw, .int ibi, .int ien, .int itr, .int ibl, .int ile, .int igr, .int ibk, .int ist, .int ibr])), (g1, .inl (cI, 4, .inl wd)), (g2, .inl (cI, 4, .inl hg))] (q_mo_count cI g0 g1 g2 g3 g4 g5 g6 g7 g8 g9 g10 g11 g12 g13 g14 g15 isz ith ico icl irw ibi ien itr ibl ile igr ibk ist ibr wd hg wt) 0 0 := by
  intro sz
  refine Met.ofW (cc := prog_11_method_36_code) (maxL := 2) (ret := (some .int)) (by decide) rfl ?_
  intro p e s m args below meth c s₁ B hml hv
  obtain ⟨rfl, hsz, hP, hK, hD0, hN⟩ := hv
  have hx := B.exec
  have hb := B.bytes
  have hr := B.returns
  have hts := atoms_spec (ws := ws_Model_count) B.pre
  have hown : s.vm.findClass "TileForgeModel" = some m.cls := findClass_of_methodNamed B.named
  have hlocks := B.notSynchronized
  subst hsz
  have hD := hD0.self (sz := s.heap.size)
  generalize hAe : va_A [(g0, .inr (9, [.ref g1, .ref g2, .ref g3, .ref g4, .ref g5, .ref g6, .ref g7, .ref g8, .ref g9, .ref g10, .ref g11, .ref g12, .ref g13, .ref g14, .ref g15, .int isz, .int ith, .int ico, .int icl, .int irw, .int ibi, .int ien, .int itr, .int ibl, .int ile, .int igr, .int ibk, .int ist, .int ibr])), (g1, .inl (cI, 4, .inl wd)), (g2, .inl (cI, 4, .inl hg))] s.heap.size = A at hD ⊢
  have hA : ∀ q : Nat, s.heap.size ≤ q → A q := fun q h => by rw [← hAe]; exact Or.inr h
  have hS : va_S A s.heap s.heap [] := va_S.rf
  have hP : va_P D vwCl [(g0, .inr (9, [.ref g1, .ref g2, .ref g3, .ref g4, .ref g5, .ref g6, .ref g7, .ref g8, .ref g9, .ref g10, .ref g11, .ref g12, .ref g13, .ref g14, .ref g15, .int isz, .int ith, .int ico, .int icl, .int irw, .int ibi, .int ien, .int itr, .int ibl, .int ile, .int igr, .int ibk, .int ist, .int ibr])), (g1, .inl (cI, 4, .inl wd)), (g2, .inl (cI, 4, .inl hg))] s.heap := hP
  have hl := lv_entry ([.ref g0, .int wt]) (n := 2) (Nat.le_of_ble_eq_true rfl)
  rw [lg_entry_eq]
  generalize (lg_sl ([.ref g0, .int wt]) ++ List.replicate (2 - (lg_sl ([.ref g0, .int wt])).length) Slot.unset).toArray = ls at hl ⊢
  have hl : lv_has ls 2 [(0, .ref g0), (1, .int wt)] := hl
  refine lv_iload_n hx hb d_Model_count_0 rfl (lv_at hl 1 rfl) ?_
  refine lv_iconst (v := 0) hx hb d_Model_count_1 (by decide) ?_
  refine lv_bipush (v := 7) hx hb d_Model_count_2 (by decide) ?_
  refine cs_Si (As := [.int wt, .int 0, .int 7]) (rest := []) (wr := [(g0, .inr (9, [.ref g1, .ref g2, .ref g3, .ref g4, .ref g5, .ref g6, .ref g7, .ref g8, .ref g9, .ref g10, .ref g11, .ref g12, .ref g13, .ref g14, .ref g15, .int isz, .int ith, .int ico, .int icl, .int irw, .int ibi, .int ien, .int itr, .int ibl, .int ile, .int igr, .int ibk, .int ist, .int ibr])), (g1, .inl (cI, 4, .inl wd)), (g2, .inl (cI, 4, .inl hg))]) ⟨hx, hb, hml, hown, hts⟩ (c_mo_in l hcI wt 0 7) (va_cwS 3 hts (cs_gS mw_350 mw_351 mw_349 mw_341) rfl rfl rfl hd_Model_in ⟨Nat.le_of_ble_eq_true rfl, Nat.le_of_ble_eq_true rfl⟩) hN hK hP hD hS hA [] [0, 1, 2] rfl rfl rfl rfl (by decide) rfl rfl hl.1 (Nat.le_of_ble_eq_true rfl) d_Model_count_4 ⟨Nat.le_of_ble_eq_true rfl, Nat.le_of_ble_eq_true rfl⟩ (fun r1 w1 H locs hw hP hD hS => ?_)
  obtain ⟨rfl, rfl⟩ := hw
  have hP : va_P D vwCl [(g0, .inr (9, [.ref g1, .ref g2, .ref g3, .ref g4, .ref g5, .ref g6, .ref g7, .ref g8, .ref g9, .ref g10, .ref g11, .ref g12, .ref g13, .ref g14, .ref g15, .int isz, .int ith, .int ico, .int icl, .int irw, .int ibi, .int ien, .int itr, .int ibl, .int ile, .int igr, .int ibk, .int ist, .int ibr])), (g1, .inl (cI, 4, .inl wd)), (g2, .inl (cI, 4, .inl hg))] H := hP
  have hD : va_D A [(g0, .inr (9, [.ref g1, .ref g2, .ref g3, .ref g4, .ref g5, .ref g6, .ref g7, .ref g8, .ref g9, .ref g10, .ref g11, .ref g12, .ref g13, .ref g14, .ref g15, .int isz, .int ith, .int ico, .int icl, .int irw, .int ibi, .int ien, .int itr, .int ibl, .int ile, .int igr, .int ibk, .int ist, .int ibr])), (g1, .inl (cI, 4, .inl wd)), (g2, .inl (cI, 4, .inl hg))] := hD
  refine lv_if_ne (tgt := 16) hx hb d_Model_count_7 (by decide) (fun c_7 => ?_) (fun c_7 => ?_)
  · have c_7 := cs_b1 c_7
    refine lv_aload_n hx hb d_Model_count_16 rfl (lv_at hl 0 rfl) ?_
    refine lv_iconst (v := 0) hx hb d_Model_count_17 (by decide) ?_
    refine va_put (D := D) (ci := 9) (v := .int 0) (ty := .int) (C := "TileForgeModel") (T := T_Model) (N := 29) hx hb hts (cs_in in_Model) ty_Model tok_Model nm_Model hown hK hP hD hS 0 rfl rfl 16 (by decide) (hts _ (cs_m mw_343)) (fun _ h9 => h9) rfl (by decide +kernel) rfl rfl (Nat.le_of_ble_eq_true rfl) d_Model_count_18 (fun H locs hP hD hS => ?_)
    have hP : va_P D vwCl [(g0, .inr (9, [.ref g1, .ref g2, .ref g3, .ref g4, .ref g5, .ref g6, .ref g7, .ref g8, .ref g9, .ref g10, .ref g11, .ref g12, .ref g13, .ref g14, .ref g15, .int isz, .int 0, .int ico, .int icl, .int irw, .int ibi, .int ien, .int itr, .int ibl, .int ile, .int igr, .int ibk, .int ist, .int ibr])), (g1, .inl (cI, 4, .inl wd)), (g2, .inl (cI, 4, .inl hg))] H := hP
    have hD : va_D A [(g0, .inr (9, [.ref g1, .ref g2, .ref g3, .ref g4, .ref g5, .ref g6, .ref g7, .ref g8, .ref g9, .ref g10, .ref g11, .ref g12, .ref g13, .ref g14, .ref g15, .int isz, .int 0, .int ico, .int icl, .int irw, .int ibi, .int ien, .int itr, .int ibl, .int ile, .int igr, .int ibk, .int ist, .int ibr])), (g1, .inl (cI, 4, .inl wd)), (g2, .inl (cI, 4, .inl hg))] := hD
    refine lv_iload_n hx hb d_Model_count_21 rfl (lv_at hl 1 rfl) ?_
    by_cases s_22_0 : wt = 0
    · refine cs_tin (k := 0) (tgt := 64) hx hb d_Model_count_22 s_22_0 (by decide) (by decide) rfl (by decide) ?_
      refine lv_aload_n hx hb d_Model_count_64 rfl (lv_at hl 0 rfl) ?_
      refine va_get (D := D) (ci := 9) (v := .ref g1) (C := "TileForgeModel") (T := T_Model) (N := 29) hx hb hts (cs_in in_Model) hown hK hP 0 rfl rfl 0 (by decide) (hts _ (cs_m mw_348)) (fun _ h9 => h9) rfl d_Model_count_65 ?_
      refine lv_iconst (v := 0) hx hb d_Model_count_68 (by decide) ?_
      refine cs_iald (j := 0) hx hb hK hcI hP 1 rfl (rfl) (by decide) (by decide) d_Model_count_69 ?_
      exact W.iret (v := (wd 0)) hx hb hr (fun t ht hW => ⟨⟨(wd 0), [(g0, .inr (9, [.ref g1, .ref g2, .ref g3, .ref g4, .ref g5, .ref g6, .ref g7, .ref g8, .ref g9, .ref g10, .ref g11, .ref g12, .ref g13, .ref g14, .ref g15, .int isz, .int 0, .int ico, .int icl, .int irw, .int ibi, .int ien, .int itr, .int ibl, .int ile, .int igr, .int ibk, .int ist, .int ibr])), (g1, .inl (cI, 4, .inl wd)), (g2, .inl (cI, 4, .inl hg))], rfl, ⟨(by simp [s_22_0]), (rfl)⟩, by rw [ht]; exact hP, va_K.moved hW.alike hK, hD⟩, hS.F ht⟩) hS.2.2 d_Model_count_70
    by_cases s_22_1 : wt = 1
    · refine cs_tin (k := 1) (tgt := 71) hx hb d_Model_count_22 s_22_1 (by decide) (by decide) rfl (by decide) ?_
      refine lv_aload_n hx hb d_Model_count_71 rfl (lv_at hl 0 rfl) ?_
      refine va_get (D := D) (ci := 9) (v := .ref g2) (C := "TileForgeModel") (T := T_Model) (N := 29) hx hb hts (cs_in in_Model) hown hK hP 0 rfl rfl 1 (by decide) (hts _ (cs_m mw_352)) (fun _ h9 => h9) rfl d_Model_count_72 ?_
      refine lv_iconst (v := 0) hx hb d_Model_count_75 (by decide) ?_
      refine cs_iald (j := 0) hx hb hK hcI hP 2 rfl (rfl) (by decide) (by decide) d_Model_count_76 ?_
      exact W.iret (v := (hg 0)) hx hb hr (fun t ht hW => ⟨⟨(hg 0), [(g0, .inr (9, [.ref g1, .ref g2, .ref g3, .ref g4, .ref g5, .ref g6, .ref g7, .ref g8, .ref g9, .ref g10, .ref g11, .ref g12, .ref g13, .ref g14, .ref g15, .int isz, .int 0, .int ico, .int icl, .int irw, .int ibi, .int ien, .int itr, .int ibl, .int ile, .int igr, .int ibk, .int ist, .int ibr])), (g1, .inl (cI, 4, .inl wd)), (g2, .inl (cI, 4, .inl hg))], rfl, ⟨(by simp [s_22_0, s_22_1]), (rfl)⟩, by rw [ht]; exact hP, va_K.moved hW.alike hK, hD⟩, hS.F ht⟩) hS.2.2 d_Model_count_77
    by_cases s_22_2 : wt = 2
    · refine cs_tin (k := 2) (tgt := 78) hx hb d_Model_count_22 s_22_2 (by decide) (by decide) rfl (by decide) ?_
      refine lv_aload_n hx hb d_Model_count_78 rfl (lv_at hl 0 rfl) ?_
      refine va_get (D := D) (ci := 9) (v := .int ibl) (C := "TileForgeModel") (T := T_Model) (N := 29) hx hb hts (cs_in in_Model) hown hK hP 0 rfl rfl 23 (by decide) (hts _ (cs_m mw_451)) (fun _ h9 => h9) rfl d_Model_count_79 ?_
      exact W.iret (v := ibl) hx hb hr (fun t ht hW => ⟨⟨ibl, [(g0, .inr (9, [.ref g1, .ref g2, .ref g3, .ref g4, .ref g5, .ref g6, .ref g7, .ref g8, .ref g9, .ref g10, .ref g11, .ref g12, .ref g13, .ref g14, .ref g15, .int isz, .int 0, .int ico, .int icl, .int irw, .int ibi, .int ien, .int itr, .int ibl, .int ile, .int igr, .int ibk, .int ist, .int ibr])), (g1, .inl (cI, 4, .inl wd)), (g2, .inl (cI, 4, .inl hg))], rfl, ⟨(by simp [s_22_0, s_22_1, s_22_2]), (rfl)⟩, by rw [ht]; exact hP, va_K.moved hW.alike hK, hD⟩, hS.F ht⟩) hS.2.2 d_Model_count_82
    by_cases s_22_3 : wt = 3
    · refine cs_tin (k := 3) (tgt := 83) hx hb d_Model_count_22 s_22_3 (by decide) (by decide) rfl (by decide) ?_
      refine lv_aload_n hx hb d_Model_count_83 rfl (lv_at hl 0 rfl) ?_
      refine va_get (D := D) (ci := 9) (v := .int ile) (C := "TileForgeModel") (T := T_Model) (N := 29) hx hb hts (cs_in in_Model) hown hK hP 0 rfl rfl 24 (by decide) (hts _ (cs_m mw_418)) (fun _ h9 => h9) rfl d_Model_count_84 ?_
      exact W.iret (v := ile) hx hb hr (fun t ht hW => ⟨⟨ile, [(g0, .inr (9, [.ref g1, .ref g2, .ref g3, .ref g4, .ref g5, .ref g6, .ref g7, .ref g8, .ref g9, .ref g10, .ref g11, .ref g12, .ref g13, .ref g14, .ref g15, .int isz, .int 0, .int ico, .int icl, .int irw, .int ibi, .int ien, .int itr, .int ibl, .int ile, .int igr, .int ibk, .int ist, .int ibr])), (g1, .inl (cI, 4, .inl wd)), (g2, .inl (cI, 4, .inl hg))], rfl, ⟨(by simp [s_22_0, s_22_1, s_22_2, s_22_3]), (rfl)⟩, by rw [ht]; exact hP, va_K.moved hW.alike hK, hD⟩, hS.F ht⟩) hS.2.2 d_Model_count_87
    by_cases s_22_4 : wt = 4
    · refine cs_tin (k := 4) (tgt := 88) hx hb d_Model_count_22 s_22_4 (by decide) (by decide) rfl (by decide) ?_
      refine lv_aload_n hx hb d_Model_count_88 rfl (lv_at hl 0 rfl) ?_
      refine va_get (D := D) (ci := 9) (v := .int igr) (C := "TileForgeModel") (T := T_Model) (N := 29) hx hb hts (cs_in in_Model) hown hK hP 0 rfl rfl 25 (by decide) (hts _ (cs_m mw_417)) (fun _ h9 => h9) rfl d_Model_count_89 ?_
      exact W.iret (v := igr) hx hb hr (fun t ht hW => ⟨⟨igr, [(g0, .inr (9, [.ref g1, .ref g2, .ref g3, .ref g4, .ref g5, .ref g6, .ref g7, .ref g8, .ref g9, .ref g10, .ref g11, .ref g12, .ref g13, .ref g14, .ref g15, .int isz, .int 0, .int ico, .int icl, .int irw, .int ibi, .int ien, .int itr, .int ibl, .int ile, .int igr, .int ibk, .int ist, .int ibr])), (g1, .inl (cI, 4, .inl wd)), (g2, .inl (cI, 4, .inl hg))], rfl, ⟨(by simp [s_22_0, s_22_1, s_22_2, s_22_3, s_22_4]), (rfl)⟩, by rw [ht]; exact hP, va_K.moved hW.alike hK, hD⟩, hS.F ht⟩) hS.2.2 d_Model_count_92
    by_cases s_22_5 : wt = 5
    · refine cs_tin (k := 5) (tgt := 93) hx hb d_Model_count_22 s_22_5 (by decide) (by decide) rfl (by decide) ?_
      refine lv_aload_n hx hb d_Model_count_93 rfl (lv_at hl 0 rfl) ?_
      refine va_get (D := D) (ci := 9) (v := .int ibk) (C := "TileForgeModel") (T := T_Model) (N := 29) hx hb hts (cs_in in_Model) hown hK hP 0 rfl rfl 26 (by decide) (hts _ (cs_m mw_449)) (fun _ h9 => h9) rfl d_Model_count_94 ?_
      exact W.iret (v := ibk) hx hb hr (fun t ht hW => ⟨⟨ibk, [(g0, .inr (9, [.ref g1, .ref g2, .ref g3, .ref g4, .ref g5, .ref g6, .ref g7, .ref g8, .ref g9, .ref g10, .ref g11, .ref g12, .ref g13, .ref g14, .ref g15, .int isz, .int 0, .int ico, .int icl, .int irw, .int ibi, .int ien, .int itr, .int ibl, .int ile, .int igr, .int ibk, .int ist, .int ibr])), (g1, .inl (cI, 4, .inl wd)), (g2, .inl (cI, 4, .inl hg))], rfl, ⟨(by simp [s_22_0, s_22_1, s_22_2, s_22_3, s_22_4, s_22_5]), (rfl)⟩, by rw [ht]; exact hP, va_K.moved hW.alike hK, hD⟩, hS.F ht⟩) hS.2.2 d_Model_count_97
    by_cases s_22_6 : wt = 6
    · refine cs_tin (k := 6) (tgt := 98) hx hb d_Model_count_22 s_22_6 (by decide) (by decide) rfl (by decide) ?_
      refine lv_aload_n hx hb d_Model_count_98 rfl (lv_at hl 0 rfl) ?_
      refine va_get (D := D) (ci := 9) (v := .int ist) (C := "TileForgeModel") (T := T_Model) (N := 29) hx hb hts (cs_in in_Model) hown hK hP 0 rfl rfl 27 (by decide) (hts _ (cs_m mw_452)) (fun _ h9 => h9) rfl d_Model_count_99 ?_
      exact W.iret (v := ist) hx hb hr (fun t ht hW => ⟨⟨ist, [(g0, .inr (9, [.ref g1, .ref g2, .ref g3, .ref g4, .ref g5, .ref g6, .ref g7, .ref g8, .ref g9, .ref g10, .ref g11, .ref g12, .ref g13, .ref g14, .ref g15, .int isz, .int 0, .int ico, .int icl, .int irw, .int ibi, .int ien, .int itr, .int ibl, .int ile, .int igr, .int ibk, .int ist, .int ibr])), (g1, .inl (cI, 4, .inl wd)), (g2, .inl (cI, 4, .inl hg))], rfl, ⟨(by simp [s_22_0, s_22_1, s_22_2, s_22_3, s_22_4, s_22_5, s_22_6]), (rfl)⟩, by rw [ht]; exact hP, va_K.moved hW.alike hK, hD⟩, hS.F ht⟩) hS.2.2 d_Model_count_102
    refine lv_tableOut (tgt := 103) hx hb d_Model_count_22 (by have h0 := lv_neT s_22_0 (a := 0) rfl; have h1 := lv_neT s_22_1 (a := 1) rfl; have h2 := lv_neT s_22_2 (a := 2) rfl; have h3 := lv_neT s_22_3 (a := 3) rfl; have h4 := lv_neT s_22_4 (a := 4) rfl; have h5 := lv_neT s_22_5 (a := 5) rfl; have h6 := lv_neT s_22_6 (a := 6) rfl; omega) (by decide) ?_
    refine lv_aload_n hx hb d_Model_count_103 rfl (lv_at hl 0 rfl) ?_
    refine va_get (D := D) (ci := 9) (v := .int ibr) (C := "TileForgeModel") (T := T_Model) (N := 29) hx hb hts (cs_in in_Model) hown hK hP 0 rfl rfl 28 (by decide) (hts _ (cs_m mw_453)) (fun _ h9 => h9) rfl d_Model_count_104 ?_
    exact W.iret (v := ibr) hx hb hr (fun t ht hW => ⟨⟨ibr, [(g0, .inr (9, [.ref g1, .ref g2, .ref g3, .ref g4, .ref g5, .ref g6, .ref g7, .ref g8, .ref g9, .ref g10, .ref g11, .ref g12, .ref g13, .ref g14, .ref g15, .int isz, .int 0, .int ico, .int icl, .int irw, .int ibi, .int ien, .int itr, .int ibl, .int ile, .int igr, .int ibk, .int ist, .int ibr])), (g1, .inl (cI, 4, .inl wd)), (g2, .inl (cI, 4, .inl hg))], rfl, ⟨(by simp [s_22_0, s_22_1, s_22_2, s_22_3, s_22_4, s_22_5, s_22_6]), (rfl)⟩, by rw [ht]; exact hP, va_K.moved hW.alike hK, hD⟩, hS.F ht⟩) hS.2.2 d_Model_count_107
  · have c_7 := cs_b0 c_7
    exact absurd hwt c_7
def q_mo_countB (cI : ClassId) (g0 : Nat) (g1 : Nat) (g2 : Nat) (g3 : Nat) (g4 : Nat) (g5 : Nat) (g6 : Nat) (g7 : Nat) (g8 : Nat) (g9 : Nat) (g10 : Nat) (g11 : Nat) (g12 : Nat) (g13 : Nat) (g14 : Nat) (g15 : Nat) (isz : Int32) (ith : Int32) (ico : Int32) (icl : Int32) (irw : Int32) (ibi : Int32) (ien : Int32) (itr : Int32) (ibl : Int32) (ile : Int32) (igr : Int32) (ibk : Int32) (ist : Int32) (ibr : Int32) (wt : Int32) : Int32 → va_W → Prop := fun rr ww => rr = (0) ∧ ww = [(g0, .inr (9, [.ref g1, .ref g2, .ref g3, .ref g4, .ref g5, .ref g6, .ref g7, .ref g8, .ref g9, .ref g10, .ref g11, .ref g12, .ref g13, .ref g14, .ref g15, .int isz, .int 1, .int ico, .int icl, .int irw, .int ibi, .int ien, .int itr, .int ibl, .int ile, .int igr, .int ibk, .int ist, .int ibr]))]
set_option maxHeartbeats 4000000 in
set_option maxRecDepth 100000 in
theorem c_mo_countB (l : Launch) {D : va_G} {tys : List (ClassId × FieldType)} {cI : ClassId} (hcI : tys[0]? = some (cI, .int)) (g0 : Nat) (g1 : Nat) (g2 : Nat) (g3 : Nat) (g4 : Nat) (g5 : Nat) (g6 : Nat) (g7 : Nat) (g8 : Nat) (g9 : Nat) (g10 : Nat) (g11 : Nat) (g12 : Nat) (g13 : Nat) (g14 : Nat) (g15 : Nat) (isz : Int32) (ith : Int32) (ico : Int32) (icl : Int32) (irw : Int32) (ibi : Int32) (ien : Int32) (itr : Int32) (ibl : Int32) (ile : Int32) (igr : Int32) (ibk : Int32) (ist : Int32) (ibr : Int32) (wt : Int32) (hwt : ¬ (¬ wt < 0 ∧ ¬ 7 < wt)) : CsI l D vwCl tys y_Model_count ws_Model_count ({ frames := 1, cells := 0, slots := 0, locals := 22 } : Room) [.ref g0, .int wt] [(g0, .inr (9, [.ref g1, .ref g2, .ref g3, .ref g4, .ref g5, .ref g6, .ref g7, .ref g8, .ref g9, .ref g10, .ref g11, .ref g12, .ref g13, .ref g14, .ref g15, .int isz, .int ith, .int ico, .int icl, .int irw, .int ibi, .int ien, .int itr, .int ibl, .int ile, .int igr, .int ibk, .int ist, .int ibr]))] (q_mo_countB cI g0 g1 g2 g3 g4 g5 g6 g7 g8 g9 g10 g11 g12 g13 g14 g15 isz ith ico icl irw ibi ien itr ibl ile igr ibk ist ibr wt) 0 0 := by
  intro sz
  refine Met.ofW (cc := prog_11_method_36_code) (maxL := 2) (ret := (some .int)) (by decide) rfl ?_
  intro p e s m args below meth c s₁ B hml hv
  obtain ⟨rfl, hsz, hP, hK, hD0, hN⟩ := hv
  have hx := B.exec
  have hb := B.bytes
  have hr := B.returns
  have hts := atoms_spec (ws := ws_Model_count) B.pre
  have hown : s.vm.findClass "TileForgeModel" = some m.cls := findClass_of_methodNamed B.named
  have hlocks := B.notSynchronized
  subst hsz
  have hD := hD0.self (sz := s.heap.size)
  generalize hAe : va_A [(g0, .inr (9, [.ref g1, .ref g2, .ref g3, .ref g4, .ref g5, .ref g6, .ref g7, .ref g8, .ref g9, .ref g10, .ref g11, .ref g12, .ref g13, .ref g14, .ref g15, .int isz, .int ith, .int ico, .int icl, .int irw, .int ibi, .int ien, .int itr, .int ibl, .int ile, .int igr, .int ibk, .int ist, .int ibr]))] s.heap.size = A at hD ⊢
  have hA : ∀ q : Nat, s.heap.size ≤ q → A q := fun q h => by rw [← hAe]; exact Or.inr h
  have hS : va_S A s.heap s.heap [] := va_S.rf
  have hP : va_P D vwCl [(g0, .inr (9, [.ref g1, .ref g2, .ref g3, .ref g4, .ref g5, .ref g6, .ref g7, .ref g8, .ref g9, .ref g10, .ref g11, .ref g12, .ref g13, .ref g14, .ref g15, .int isz, .int ith, .int ico, .int icl, .int irw, .int ibi, .int ien, .int itr, .int ibl, .int ile, .int igr, .int ibk, .int ist, .int ibr]))] s.heap := hP
  have hl := lv_entry ([.ref g0, .int wt]) (n := 2) (Nat.le_of_ble_eq_true rfl)
  rw [lg_entry_eq]
  generalize (lg_sl ([.ref g0, .int wt]) ++ List.replicate (2 - (lg_sl ([.ref g0, .int wt])).length) Slot.unset).toArray = ls at hl ⊢
  have hl : lv_has ls 2 [(0, .ref g0), (1, .int wt)] := hl
  refine lv_iload_n hx hb d_Model_count_0 rfl (lv_at hl 1 rfl) ?_
  refine lv_iconst (v := 0) hx hb d_Model_count_1 (by decide) ?_
  refine lv_bipush (v := 7) hx hb d_Model_count_2 (by decide) ?_
  refine cs_Si (As := [.int wt, .int 0, .int 7]) (rest := []) (wr := [(g0, .inr (9, [.ref g1, .ref g2, .ref g3, .ref g4, .ref g5, .ref g6, .ref g7, .ref g8, .ref g9, .ref g10, .ref g11, .ref g12, .ref g13, .ref g14, .ref g15, .int isz, .int ith, .int ico, .int icl, .int irw, .int ibi, .int ien, .int itr, .int ibl, .int ile, .int igr, .int ibk, .int ist, .int ibr]))]) ⟨hx, hb, hml, hown, hts⟩ (c_mo_in l hcI wt 0 7) (va_cwS 3 hts (cs_gS mw_350 mw_351 mw_349 mw_341) rfl rfl rfl hd_Model_in ⟨Nat.le_of_ble_eq_true rfl, Nat.le_of_ble_eq_true rfl⟩) hN hK hP hD hS hA [] [0] rfl rfl rfl rfl (by decide) rfl rfl hl.1 (Nat.le_of_ble_eq_true rfl) d_Model_count_4 ⟨Nat.le_of_ble_eq_true rfl, Nat.le_of_ble_eq_true rfl⟩ (fun r1 w1 H locs hw hP hD hS => ?_)
  obtain ⟨rfl, rfl⟩ := hw
  have hP : va_P D vwCl [(g0, .inr (9, [.ref g1, .ref g2, .ref g3, .ref g4, .ref g5, .ref g6, .ref g7, .ref g8, .ref g9, .ref g10, .ref g11, .ref g12, .ref g13, .ref g14, .ref g15, .int isz, .int ith, .int ico, .int icl, .int irw, .int ibi, .int ien, .int itr, .int ibl, .int ile, .int igr, .int ibk, .int ist, .int ibr]))] H := hP
  have hD : va_D A [(g0, .inr (9, [.ref g1, .ref g2, .ref g3, .ref g4, .ref g5, .ref g6, .ref g7, .ref g8, .ref g9, .ref g10, .ref g11, .ref g12, .ref g13, .ref g14, .ref g15, .int isz, .int ith, .int ico, .int icl, .int irw, .int ibi, .int ien, .int itr, .int ibl, .int ile, .int igr, .int ibk, .int ist, .int ibr]))] := hD
  refine lv_if_ne (tgt := 16) hx hb d_Model_count_7 (by decide) (fun c_7 => ?_) (fun c_7 => ?_)
  · have c_7 := cs_b1 c_7
    exact absurd c_7 hwt
  · have c_7 := cs_b0 c_7
    refine lv_aload_n hx hb d_Model_count_10 rfl (lv_at hl 0 rfl) ?_
    refine lv_iconst (v := 1) hx hb d_Model_count_11 (by decide) ?_
    refine cs_Vi (As := [.int 1]) (rest := []) (wr := []) ⟨hx, hb, hml, hown, hts⟩ (c_mo_fail l hcI g0 g1 g2 g3 g4 g5 g6 g7 g8 g9 g10 g11 g12 g13 g14 g15 isz ith ico icl irw ibi ien itr ibl ile igr ibk ist ibr 1) (cwV 1 hts (cs_gV mw_435 mw_436 mw_437 mw_349 mw_342) rfl rfl rfl ⟨rfl, hd_Model_fail⟩ ⟨Nat.le_of_ble_eq_true rfl, Nat.le_of_ble_eq_true rfl⟩) hN hK hP hD hS hA [0] [] rfl rfl rfl rfl (by decide) (ci := 9) rfl rfl rfl rfl rfl hl.1 (Nat.le_of_ble_eq_true rfl) d_Model_count_12 ⟨Nat.le_of_ble_eq_true rfl, Nat.le_of_ble_eq_true rfl⟩ (fun r2 w1 H locs hw hP hD hS => ?_)
    obtain ⟨rfl, rfl⟩ := hw
    have hP : va_P D vwCl [(g0, .inr (9, [.ref g1, .ref g2, .ref g3, .ref g4, .ref g5, .ref g6, .ref g7, .ref g8, .ref g9, .ref g10, .ref g11, .ref g12, .ref g13, .ref g14, .ref g15, .int isz, .int 1, .int ico, .int icl, .int irw, .int ibi, .int ien, .int itr, .int ibl, .int ile, .int igr, .int ibk, .int ist, .int ibr]))] H := hP
    have hD : va_D A [(g0, .inr (9, [.ref g1, .ref g2, .ref g3, .ref g4, .ref g5, .ref g6, .ref g7, .ref g8, .ref g9, .ref g10, .ref g11, .ref g12, .ref g13, .ref g14, .ref g15, .int isz, .int 1, .int ico, .int icl, .int irw, .int ibi, .int ien, .int itr, .int ibl, .int ile, .int igr, .int ibk, .int ist, .int ibr]))] := hD
    exact W.iret (v := 0) hx hb hr (fun t ht hW => ⟨⟨0, [(g0, .inr (9, [.ref g1, .ref g2, .ref g3, .ref g4, .ref g5, .ref g6, .ref g7, .ref g8, .ref g9, .ref g10, .ref g11, .ref g12, .ref g13, .ref g14, .ref g15, .int isz, .int 1, .int ico, .int icl, .int irw, .int ibi, .int ien, .int itr, .int ibl, .int ile, .int igr, .int ibk, .int ist, .int ibr]))], rfl, ⟨(rfl), (rfl)⟩, by rw [ht]; exact hP, va_K.moved hW.alike hK, hD⟩, hS.F ht⟩) hS.2.2 d_Model_count_15
