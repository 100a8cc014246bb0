def y_Model_become : MethodName := ⟨"TileForgeModel", "become", "(I)V"⟩
def ws_Model_become : List Cond := .code y_Model_become prog_11_method_24_code 3 none :: GW
theorem mw_432 : (.code ⟨"TileForgeModel", "become", "(I)V"⟩ prog_11_method_24_code 3 none : Cond) ∈ GW := List.mem_filter.mpr ⟨(List.mem_append_right _ (List.mem_append_right _ (List.mem_append_right _ (List.mem_append_right _ (List.mem_of_getElem? (i := 139) rfl))))), rfl⟩
theorem hd_Model_become : y_Model_become.cls ≠ "java/lang/invoke/MethodHandle" ∧ y_Model_become.cls ≠ "java/lang/invoke/VarHandle" ∧ (parseMethodDescriptor y_Model_become.desc).map (fun d => d.parameters.length) = some 1 := by decide +kernel
theorem d_Model_become_0 : decode prog_11_method_24_code 0 = .ok (.aload_n 0, 1) := by decide +kernel
theorem d_Model_become_1 : decode prog_11_method_24_code 1 = .ok (.getfield 52, 3) := by decide +kernel
theorem d_Model_become_4 : decode prog_11_method_24_code 4 = .ok (.iload_n 1, 1) := by decide +kernel
theorem d_Model_become_5 : decode prog_11_method_24_code 5 = .ok (.iconst 1, 1) := by decide +kernel
theorem d_Model_become_6 : decode prog_11_method_24_code 6 = .ok (.bastore, 1) := by decide +kernel
theorem d_Model_become_7 : decode prog_11_method_24_code 7 = .ok (.aload_n 0, 1) := by decide +kernel
theorem d_Model_become_8 : decode prog_11_method_24_code 8 = .ok (.getfield 7, 3) := by decide +kernel
theorem d_Model_become_11 : decode prog_11_method_24_code 11 = .ok (.iload_n 1, 1) := by decide +kernel
theorem d_Model_become_12 : decode prog_11_method_24_code 12 = .ok (.aload_n 0, 1) := by decide +kernel
theorem d_Model_become_13 : decode prog_11_method_24_code 13 = .ok (.getfield 7, 3) := by decide +kernel
theorem d_Model_become_16 : decode prog_11_method_24_code 16 = .ok (.iconst 3, 1) := by decide +kernel
theorem d_Model_become_17 : decode prog_11_method_24_code 17 = .ok (.iaload, 1) := by decide +kernel
theorem d_Model_become_18 : decode prog_11_method_24_code 18 = .ok (.iastore, 1) := by decide +kernel
theorem d_Model_become_19 : decode prog_11_method_24_code 19 = .ok (.aload_n 0, 1) := by decide +kernel
theorem d_Model_become_20 : decode prog_11_method_24_code 20 = .ok (.getfield 13, 3) := by decide +kernel
theorem d_Model_become_23 : decode prog_11_method_24_code 23 = .ok (.iload_n 1, 1) := by decide +kernel
theorem d_Model_become_24 : decode prog_11_method_24_code 24 = .ok (.aload_n 0, 1) := by decide +kernel
theorem d_Model_become_25 : decode prog_11_method_24_code 25 = .ok (.getfield 13, 3) := by decide +kernel
theorem d_Model_become_28 : decode prog_11_method_24_code 28 = .ok (.iconst 3, 1) := by decide +kernel
theorem d_Model_become_29 : decode prog_11_method_24_code 29 = .ok (.iaload, 1) := by decide +kernel
theorem d_Model_become_30 : decode prog_11_method_24_code 30 = .ok (.iastore, 1) := by decide +kernel
theorem d_Model_become_31 : decode prog_11_method_24_code 31 = .ok (.iconst 0, 1) := by decide +kernel
theorem d_Model_become_32 : decode prog_11_method_24_code 32 = .ok (.istore_n 2, 1) := by decide +kernel
theorem d_Model_become_33 : decode prog_11_method_24_code 33 = .ok (.iload_n 2, 1) := by decide +kernel
theorem d_Model_become_34 : decode prog_11_method_24_code 34 = .ok (.sipush 144, 3) := by decide +kernel
theorem d_Model_become_37 : decode prog_11_method_24_code 37 = .ok (.if_icmp .ge 31, 3) := by decide +kernel
theorem d_Model_become_40 : decode prog_11_method_24_code 40 = .ok (.aload_n 0, 1) := by decide +kernel
theorem d_Model_become_41 : decode prog_11_method_24_code 41 = .ok (.getfield 16, 3) := by decide +kernel
theorem d_Model_become_44 : decode prog_11_method_24_code 44 = .ok (.sipush 144, 3) := by decide +kernel
theorem d_Model_become_47 : decode prog_11_method_24_code 47 = .ok (.iload_n 1, 1) := by decide +kernel
theorem d_Model_become_48 : decode prog_11_method_24_code 48 = .ok (.imul, 1) := by decide +kernel
theorem d_Model_become_49 : decode prog_11_method_24_code 49 = .ok (.iload_n 2, 1) := by decide +kernel
theorem d_Model_become_50 : decode prog_11_method_24_code 50 = .ok (.iadd, 1) := by decide +kernel
theorem d_Model_become_51 : decode prog_11_method_24_code 51 = .ok (.aload_n 0, 1) := by decide +kernel
theorem d_Model_become_52 : decode prog_11_method_24_code 52 = .ok (.getfield 16, 3) := by decide +kernel
theorem d_Model_become_55 : decode prog_11_method_24_code 55 = .ok (.sipush 432, 3) := by decide +kernel
theorem d_Model_become_58 : decode prog_11_method_24_code 58 = .ok (.iload_n 2, 1) := by decide +kernel
theorem d_Model_become_59 : decode prog_11_method_24_code 59 = .ok (.iadd, 1) := by decide +kernel
theorem d_Model_become_60 : decode prog_11_method_24_code 60 = .ok (.iaload, 1) := by decide +kernel
theorem d_Model_become_61 : decode prog_11_method_24_code 61 = .ok (.iastore, 1) := by decide +kernel
theorem d_Model_become_62 : decode prog_11_method_24_code 62 = .ok (.iinc 2 1, 3) := by decide +kernel
theorem d_Model_become_65 : decode prog_11_method_24_code 65 = .ok (.goto (-32), 3) := by decide +kernel
theorem d_Model_become_68 : decode prog_11_method_24_code 68 = .ok (.return_, 1) := by decide +kernel
theorem mw_433 : (.fieldLink "TileForgeModel" 52 "TileForgeModel" "there" "[Z" : Cond) ∈ GW := List.mem_filter.mpr ⟨(List.mem_append_right _ (List.mem_append_right _ (List.mem_append_right _ (List.mem_append_left _ (List.mem_of_getElem? (i := 212) rfl))))), rfl⟩
def q_mo_become (cI cZ : ClassId) (g0 : Nat) (g1 : Nat) (g2 : Nat) (g3 : Nat) (g4 : Nat) (g5 : Nat) (g6 : Nat) (g7 : Nat) (g8 : Nat) (g9 : Nat) (g10 : Nat) (g11 : Nat) (g12 : Nat) (g13 : Nat) (g14 : Nat) (g15 : Nat) (isz : Int32) (ith : Int32) (ico : Int32) (icl : Int32) (irw : Int32) (ibi : Int32) (ien : Int32) (itr : Int32) (ibl : Int32) (ile : Int32) (igr : Int32) (ibk : Int32) (ist : Int32) (ibr : Int32) (wd : Nat → Int32) (hg : Nat → Int32) (pix : Nat → Int32) (thr : Nat → Int32) (o : Nat) : va_W → Prop := fun ww => ww = [(g0, .inr (9, [.ref g1, .ref g2, .ref g3, .ref g4, .ref g5, .ref g6, .ref g7, .ref g8, .ref g9, .ref g10, .ref g11, .ref g12, .ref g13, .ref g14, .ref g15, .int isz, .int ith, .int ico, .int icl, .int irw, .int ibi, .int ien, .int itr, .int ibl, .int ile, .int igr, .int ibk, .int ist, .int ibr])), (g1, .inl (cI, 4, .inl (upd wd o (wd 3)))), (g2, .inl (cI, 4, .inl (upd hg o (hg 3)))), (g3, .inl (cI, 576, .inl (cp2 pix pix (144 * o) 432 144))), (g15, .inl (cZ, 4, .inl (upd thr o 1)))]
set_option maxHeartbeats 4000000 in
set_option maxRecDepth 100000 in
theorem c_mo_become (l : Launch) {D : va_G} {tys : List (ClassId × FieldType)} {cI cZ : ClassId} (hcI : tys[0]? = some (cI, .int)) (hcZ : tys[3]? = some (cZ, .boolean)) (g0 : Nat) (g1 : Nat) (g2 : Nat) (g3 : Nat) (g4 : Nat) (g5 : Nat) (g6 : Nat) (g7 : Nat) (g8 : Nat) (g9 : Nat) (g10 : Nat) (g11 : Nat) (g12 : Nat) (g13 : Nat) (g14 : Nat) (g15 : Nat) (isz : Int32) (ith : Int32) (ico : Int32) (icl : Int32) (irw : Int32) (ibi : Int32) (ien : Int32) (itr : Int32) (ibl : Int32) (ile : Int32) (igr : Int32) (ibk : Int32) (ist : Int32) (ibr : Int32) (wd : Nat → Int32) (hg : Nat → Int32) (pix : Nat → Int32) (thr : Nat → Int32) (o : Nat) (ho : o < 3) : CsV l D vwCl tys y_Model_become ws_Model_become ({ frames := 0, cells := 0, slots := 0, locals := 0 } : Room) [.ref g0, .int (nI o)] [(g0, .inr (9, [.ref g1, .ref g2, .ref g3, .ref g4, .ref g5, .ref g6, .ref g7, .ref g8, .ref g9, .ref g10, .ref g11, .ref g12, .ref g13, .ref g14, .ref g15, .int isz, .int ith, .int ico, .int icl, .int irw, .int ibi, .int ien, .int itr, .int ibl, .int ile, .int igr, .int ibk, .int ist, .int ibr])), (g1, .inl (cI, 4, .inl wd)), (g2, .inl (cI, 4, .inl hg)), (g3, .inl (cI, 576, .inl pix)), (g15, .inl (cZ, 4, .inl thr))] (q_mo_become cI cZ g0 g1 g2 g3 g4 g5 g6 g7 g8 g9 g10 g11 g12 g13 g14 g15 isz ith ico icl irw ibi ien itr ibl ile igr ibk ist ibr wd hg pix thr o) 0 0 := by
  intro sz
  refine Met.ofW (cc := prog_11_method_24_code) (maxL := 3) (ret := none) (by decide) rfl ?_
  intro p e s m args below meth c s₁ B hml hv
  obtain ⟨rfl, hsz, hP, hK, hD0, hN⟩ := hv
  have hx := B.exec
  have hb := B.bytes
  have hr := B.returns
  have hts := atoms_spec (ws := ws_Model_become) B.pre
  have hown : s.vm.findClass "TileForgeModel" = some m.cls := findClass_of_methodNamed B.named
  have hlocks := B.notSynchronized
  subst hsz
  have hD := hD0.self (sz := s.heap.size)
  generalize hAe : va_A [(g0, .inr (9, [.ref g1, .ref g2, .ref g3, .ref g4, .ref g5, .ref g6, .ref g7, .ref g8, .ref g9, .ref g10, .ref g11, .ref g12, .ref g13, .ref g14, .ref g15, .int isz, .int ith, .int ico, .int icl, .int irw, .int ibi, .int ien, .int itr, .int ibl, .int ile, .int igr, .int ibk, .int ist, .int ibr])), (g1, .inl (cI, 4, .inl wd)), (g2, .inl (cI, 4, .inl hg)), (g3, .inl (cI, 576, .inl pix)), (g15, .inl (cZ, 4, .inl thr))] s.heap.size = A at hD ⊢
  have hA : ∀ q : Nat, s.heap.size ≤ q → A q := fun q h => by rw [← hAe]; exact Or.inr h
  have hS : va_S A s.heap s.heap [] := va_S.rf
  have hP : va_P D vwCl [(g0, .inr (9, [.ref g1, .ref g2, .ref g3, .ref g4, .ref g5, .ref g6, .ref g7, .ref g8, .ref g9, .ref g10, .ref g11, .ref g12, .ref g13, .ref g14, .ref g15, .int isz, .int ith, .int ico, .int icl, .int irw, .int ibi, .int ien, .int itr, .int ibl, .int ile, .int igr, .int ibk, .int ist, .int ibr])), (g1, .inl (cI, 4, .inl wd)), (g2, .inl (cI, 4, .inl hg)), (g3, .inl (cI, 576, .inl pix)), (g15, .inl (cZ, 4, .inl thr))] s.heap := hP
  have hl := lv_entry ([.ref g0, .int (nI o)]) (n := 3) (Nat.le_of_ble_eq_true rfl)
  rw [lg_entry_eq]
  generalize (lg_sl ([.ref g0, .int (nI o)]) ++ List.replicate (3 - (lg_sl ([.ref g0, .int (nI o)])).length) Slot.unset).toArray = ls at hl ⊢
  have hl : lv_has ls 3 [(0, .ref g0), (1, .int (nI o))] := hl
  refine lv_aload_n hx hb d_Model_become_0 rfl (lv_at hl 0 rfl) ?_
  refine va_get (D := D) (ci := 9) (v := .ref g15) (C := "TileForgeModel") (T := T_Model) (N := 29) hx hb hts (cs_in in_Model) hown hK hP 0 rfl rfl 14 (by decide) (hts _ (cs_m mw_433)) (fun _ h9 => h9) rfl d_Model_become_1 ?_
  refine lv_iload_n hx hb d_Model_become_4 rfl (lv_at hl 1 rfl) ?_
  refine lv_iconst (v := 1) hx hb d_Model_become_5 (by decide) ?_
  refine cs_zast (j := o) hx hb hK hcZ hP hD hS 4 rfl (rfl) (by omega) (by decide) rfl d_Model_become_6 (fun H locs hP hD hS => ?_)
  have hP : va_P D vwCl [(g0, .inr (9, [.ref g1, .ref g2, .ref g3, .ref g4, .ref g5, .ref g6, .ref g7, .ref g8, .ref g9, .ref g10, .ref g11, .ref g12, .ref g13, .ref g14, .ref g15, .int isz, .int ith, .int ico, .int icl, .int irw, .int ibi, .int ien, .int itr, .int ibl, .int ile, .int igr, .int ibk, .int ist, .int ibr])), (g1, .inl (cI, 4, .inl wd)), (g2, .inl (cI, 4, .inl hg)), (g3, .inl (cI, 576, .inl pix)), (g15, .inl (cZ, 4, .inl (upd thr o 1)))] H := hP
  have hD : va_D A [(g0, .inr (9, [.ref g1, .ref g2, .ref g3, .ref g4, .ref g5, .ref g6, .ref g7, .ref g8, .ref g9, .ref g10, .ref g11, .ref g12, .ref g13, .ref g14, .ref g15, .int isz, .int ith, .int ico, .int icl, .int irw, .int ibi, .int ien, .int itr, .int ibl, .int ile, .int igr, .int ibk, .int ist, .int ibr])), (g1, .inl (cI, 4, .inl wd)), (g2, .inl (cI, 4, .inl hg)), (g3, .inl (cI, 576, .inl pix)), (g15, .inl (cZ, 4, .inl (upd thr o 1)))] := hD
  refine lv_aload_n hx hb d_Model_become_7 rfl (lv_at hl 0 rfl) ?_
  refine va_get (D := D) (ci := 9) (v := .ref g1) (C := "TileForgeModel") (T := T_Model) (N := 29) hx hb hts (cs_in in_Model) hown hK hP 0 rfl rfl 0 (by decide) (hts _ (cs_m mw_348)) (fun _ h9 => h9) rfl d_Model_become_8 ?_
  refine lv_iload_n hx hb d_Model_become_11 rfl (lv_at hl 1 rfl) ?_
  refine lv_aload_n hx hb d_Model_become_12 rfl (lv_at hl 0 rfl) ?_
  refine va_get (D := D) (ci := 9) (v := .ref g1) (C := "TileForgeModel") (T := T_Model) (N := 29) hx hb hts (cs_in in_Model) hown hK hP 0 rfl rfl 0 (by decide) (hts _ (cs_m mw_348)) (fun _ h9 => h9) rfl d_Model_become_13 ?_
  refine lv_iconst (v := 3) hx hb d_Model_become_16 (by decide) ?_
  refine cs_iald (j := 3) hx hb hK hcI hP 1 rfl (rfl) (by decide) (by decide) d_Model_become_17 ?_
  refine cs_iast (j := o) hx hb hK hcI hP hD hS 1 rfl (rfl) (by omega) (by decide) d_Model_become_18 (fun H locs hP hD hS => ?_)
  have hP : va_P D vwCl [(g0, .inr (9, [.ref g1, .ref g2, .ref g3, .ref g4, .ref g5, .ref g6, .ref g7, .ref g8, .ref g9, .ref g10, .ref g11, .ref g12, .ref g13, .ref g14, .ref g15, .int isz, .int ith, .int ico, .int icl, .int irw, .int ibi, .int ien, .int itr, .int ibl, .int ile, .int igr, .int ibk, .int ist, .int ibr])), (g1, .inl (cI, 4, .inl (upd wd o (wd 3)))), (g2, .inl (cI, 4, .inl hg)), (g3, .inl (cI, 576, .inl pix)), (g15, .inl (cZ, 4, .inl (upd thr o 1)))] H := hP
  have hD : va_D A [(g0, .inr (9, [.ref g1, .ref g2, .ref g3, .ref g4, .ref g5, .ref g6, .ref g7, .ref g8, .ref g9, .ref g10, .ref g11, .ref g12, .ref g13, .ref g14, .ref g15, .int isz, .int ith, .int ico, .int icl, .int irw, .int ibi, .int ien, .int itr, .int ibl, .int ile, .int igr, .int ibk, .int ist, .int ibr])), (g1, .inl (cI, 4, .inl (upd wd o (wd 3)))), (g2, .inl (cI, 4, .inl hg)), (g3, .inl (cI, 576, .inl pix)), (g15, .inl (cZ, 4, .inl (upd thr o 1)))] := hD
  refine lv_aload_n hx hb d_Model_become_19 rfl (lv_at hl 0 rfl) ?_
  refine va_get (D := D) (ci := 9) (v := .ref g2) (C := "TileForgeModel") (T := T_Model) (N := 29) hx hb hts (cs_in in_Model) hown hK hP 0 rfl rfl 1 (by decide) (hts _ (cs_m mw_352)) (fun _ h9 => h9) rfl d_Model_become_20 ?_
  refine lv_iload_n hx hb d_Model_become_23 rfl (lv_at hl 1 rfl) ?_
  refine lv_aload_n hx hb d_Model_become_24 rfl (lv_at hl 0 rfl) ?_
  refine va_get (D := D) (ci := 9) (v := .ref g2) (C := "TileForgeModel") (T := T_Model) (N := 29) hx hb hts (cs_in in_Model) hown hK hP 0 rfl rfl 1 (by decide) (hts _ (cs_m mw_352)) (fun _ h9 => h9) rfl d_Model_become_25 ?_
  refine lv_iconst (v := 3) hx hb d_Model_become_28 (by decide) ?_
  refine cs_iald (j := 3) hx hb hK hcI hP 2 rfl (rfl) (by decide) (by decide) d_Model_become_29 ?_
  refine cs_iast (j := o) hx hb hK hcI hP hD hS 2 rfl (rfl) (by omega) (by decide) d_Model_become_30 (fun H locs hP hD hS => ?_)
  have hP : va_P D vwCl [(g0, .inr (9, [.ref g1, .ref g2, .ref g3, .ref g4, .ref g5, .ref g6, .ref g7, .ref g8, .ref g9, .ref g10, .ref g11, .ref g12, .ref g13, .ref g14, .ref g15, .int isz, .int ith, .int ico, .int icl, .int irw, .int ibi, .int ien, .int itr, .int ibl, .int ile, .int igr, .int ibk, .int ist, .int ibr])), (g1, .inl (cI, 4, .inl (upd wd o (wd 3)))), (g2, .inl (cI, 4, .inl (upd hg o (hg 3)))), (g3, .inl (cI, 576, .inl pix)), (g15, .inl (cZ, 4, .inl (upd thr o 1)))] H := hP
  have hD : va_D A [(g0, .inr (9, [.ref g1, .ref g2, .ref g3, .ref g4, .ref g5, .ref g6, .ref g7, .ref g8, .ref g9, .ref g10, .ref g11, .ref g12, .ref g13, .ref g14, .ref g15, .int isz, .int ith, .int ico, .int icl, .int irw, .int ibi, .int ien, .int itr, .int ibl, .int ile, .int igr, .int ibk, .int ist, .int ibr])), (g1, .inl (cI, 4, .inl (upd wd o (wd 3)))), (g2, .inl (cI, 4, .inl (upd hg o (hg 3)))), (g3, .inl (cI, 576, .inl pix)), (g15, .inl (cZ, 4, .inl (upd thr o 1)))] := hD
  refine lv_iconst (v := 0) hx hb d_Model_become_31 (by decide) ?_
  refine lv_istore_n (lv' := [(2, .int 0), (0, .ref g0), (1, .int (nI o))]) hx hb d_Model_become_32 rfl hl (by decide) rfl (fun ls hl => ?_)
  have lp33 : ∀ (n : Nat) (k : Nat) (f : Nat → Int32), (145 ≤ k + n) → (k ≤ 144) → (f = cp2 pix pix (144 * o) 432 k) → ∀ (H : Heap) (locs : List Loc) (ls : Array Slot), va_P D vwCl [(g0, .inr (9, [.ref g1, .ref g2, .ref g3, .ref g4, .ref g5, .ref g6, .ref g7, .ref g8, .ref g9, .ref g10, .ref g11, .ref g12, .ref g13, .ref g14, .ref g15, .int isz, .int ith, .int ico, .int icl, .int irw, .int ibi, .int ien, .int itr, .int ibl, .int ile, .int igr, .int ibk, .int ist, .int ibr])), (g1, .inl (cI, 4, .inl (upd wd o (wd 3)))), (g2, .inl (cI, 4, .inl (upd hg o (hg 3)))), (g3, .inl (cI, 576, .inl f)), (g15, .inl (cZ, 4, .inl (upd thr o 1)))] H → va_D A [(g0, .inr (9, [.ref g1, .ref g2, .ref g3, .ref g4, .ref g5, .ref g6, .ref g7, .ref g8, .ref g9, .ref g10, .ref g11, .ref g12, .ref g13, .ref g14, .ref g15, .int isz, .int ith, .int ico, .int icl, .int irw, .int ibi, .int ien, .int itr, .int ibl, .int ile, .int igr, .int ibk, .int ist, .int ibr])), (g1, .inl (cI, 4, .inl (upd wd o (wd 3)))), (g2, .inl (cI, 4, .inl (upd hg o (hg 3)))), (g3, .inl (cI, 576, .inl f)), (g15, .inl (cZ, 4, .inl (upd thr o 1)))] → va_S A s.heap H locs → lv_has ls 3 [(0, .ref g0), (1, .int (nI o)), (2, .int (nI k))] → W p l e ({ frames := 0, cells := 0, slots := 0, locals := 0 } : Room) s m ([.ref g0, .int (nI o)] : List Value).toArray below meth c H locs 0 0 (MQ below (va_Qv (q_mo_become cI cZ g0 g1 g2 g3 g4 g5 g6 g7 g8 g9 g10 g11 g12 g13 g14 g15 isz ith ico icl irw ibi ien itr ibl ile igr ibk ist ibr wd hg pix thr o) (cs_B D vwCl tys A) A) ([.ref g0, .int (nI o)] : List Value).toArray s 0 0 A) (F0 m 33 ls []) := by
    intro n
    induction n with
    | zero =>
      intro k f hf hk hf2
      exact absurd hf (by omega)
    | succ n ih33 =>
      intro k f hf hk hf2 H locs ls hP hD hS hl
      refine lv_iload_n hx hb d_Model_become_33 rfl (lv_at hl 2 rfl) ?_
      refine lv_sipush (v := 144) hx hb d_Model_become_34 (by decide) ?_
      refine lv_icmp_ge (tgt := 68) hx hb d_Model_become_37 (by decide) (fun c_37 => ?_) (fun c_37 => ?_)
      · have hk2 := (nI_leI (a := 144) (b := k) (by decide) (by omega)).mp c_37
        have hk3 : k = 144 := by omega
        subst hk3
        exact W.vret hx hb hr (fun t ht hW => ⟨⟨[(g0, .inr (9, [.ref g1, .ref g2, .ref g3, .ref g4, .ref g5, .ref g6, .ref g7, .ref g8, .ref g9, .ref g10, .ref g11, .ref g12, .ref g13, .ref g14, .ref g15, .int isz, .int ith, .int ico, .int icl, .int irw, .int ibi, .int ien, .int itr, .int ibl, .int ile, .int igr, .int ibk, .int ist, .int ibr])), (g1, .inl (cI, 4, .inl (upd wd o (wd 3)))), (g2, .inl (cI, 4, .inl (upd hg o (hg 3)))), (g3, .inl (cI, 576, .inl f)), (g15, .inl (cZ, 4, .inl (upd thr o 1)))], rfl, (show _ = _ from (by rw [hf2])), by rw [ht]; exact hP, va_K.moved hW.alike hK, hD⟩, hS.F ht⟩) hS.2.2 d_Model_become_68
      · have hk2 : k < 144 := Nat.not_le.mp (fun h => c_37 ((nI_leI (a := 144) (b := k) (by decide) (by omega)).mpr h))
        refine lv_aload_n hx hb d_Model_become_40 rfl (lv_at hl 0 rfl) ?_
        refine va_get (D := D) (ci := 9) (v := .ref g3) (C := "TileForgeModel") (T := T_Model) (N := 29) hx hb hts (cs_in in_Model) hown hK hP 0 rfl rfl 2 (by decide) (hts _ (cs_m mw_354)) (fun _ h9 => h9) rfl d_Model_become_41 ?_
        refine lv_sipush (v := 144) hx hb d_Model_become_44 (by decide) ?_
        refine lv_iload_n hx hb d_Model_become_47 rfl (lv_at hl 1 rfl) ?_
        refine lv_imul hx hb d_Model_become_48 ?_
        refine lv_iload_n hx hb d_Model_become_49 rfl (lv_at hl 2 rfl) ?_
        refine lv_iadd hx hb d_Model_become_50 ?_
        refine lv_aload_n hx hb d_Model_become_51 rfl (lv_at hl 0 rfl) ?_
        refine va_get (D := D) (ci := 9) (v := .ref g3) (C := "TileForgeModel") (T := T_Model) (N := 29) hx hb hts (cs_in in_Model) hown hK hP 0 rfl rfl 2 (by decide) (hts _ (cs_m mw_354)) (fun _ h9 => h9) rfl d_Model_become_52 ?_
        refine lv_sipush (v := 432) hx hb d_Model_become_55 (by decide) ?_
        refine lv_iload_n hx hb d_Model_become_58 rfl (lv_at hl 2 rfl) ?_
        refine lv_iadd hx hb d_Model_become_59 ?_
        refine cs_iald (j := 432 + k) hx hb hK hcI hP 3 rfl (nI_add 432 k) (by omega) (by decide) d_Model_become_60 ?_
        refine cs_iast (j := 144 * o + k) hx hb hK hcI hP hD hS 3 rfl (cs_144 o k) (by omega) (by decide) d_Model_become_61 (fun H locs hP hD hS => ?_)
        have hP : va_P D vwCl [(g0, .inr (9, [.ref g1, .ref g2, .ref g3, .ref g4, .ref g5, .ref g6, .ref g7, .ref g8, .ref g9, .ref g10, .ref g11, .ref g12, .ref g13, .ref g14, .ref g15, .int isz, .int ith, .int ico, .int icl, .int irw, .int ibi, .int ien, .int itr, .int ibl, .int ile, .int igr, .int ibk, .int ist, .int ibr])), (g1, .inl (cI, 4, .inl (upd wd o (wd 3)))), (g2, .inl (cI, 4, .inl (upd hg o (hg 3)))), (g3, .inl (cI, 576, .inl (upd f (144 * o + k) (f (432 + k))))), (g15, .inl (cZ, 4, .inl (upd thr o 1)))] H := hP
        have hD : va_D A [(g0, .inr (9, [.ref g1, .ref g2, .ref g3, .ref g4, .ref g5, .ref g6, .ref g7, .ref g8, .ref g9, .ref g10, .ref g11, .ref g12, .ref g13, .ref g14, .ref g15, .int isz, .int ith, .int ico, .int icl, .int irw, .int ibi, .int ien, .int itr, .int ibl, .int ile, .int igr, .int ibk, .int ist, .int ibr])), (g1, .inl (cI, 4, .inl (upd wd o (wd 3)))), (g2, .inl (cI, 4, .inl (upd hg o (hg 3)))), (g3, .inl (cI, 576, .inl (upd f (144 * o + k) (f (432 + k))))), (g15, .inl (cZ, 4, .inl (upd thr o 1)))] := hD
        refine lv_iinc (v := nI (k + 1)) (lv' := [(2, .int (nI (k + 1))), (0, .ref g0), (1, .int (nI o))]) hx hb d_Model_become_62 hl (k := 2) rfl (nI_1 _) (by decide) rfl (fun ls hl => ?_)
        refine lv_goto (tgt := 33) hx hb d_Model_become_65 (by decide) ?_
        exact ih33 (k + 1) (upd f (144 * o + k) (f (432 + k))) (by omega) (by omega) (by rw [hf2]; exact cp2_s (cp2_hi (by omega))) _ _ _ (hP.sub (ws' := [(g0, .inr (9, [.ref g1, .ref g2, .ref g3, .ref g4, .ref g5, .ref g6, .ref g7, .ref g8, .ref g9, .ref g10, .ref g11, .ref g12, .ref g13, .ref g14, .ref g15, .int isz, .int ith, .int ico, .int icl, .int irw, .int ibi, .int ien, .int itr, .int ibl, .int ile, .int igr, .int ibk, .int ist, .int ibr])), (g1, .inl (cI, 4, .inl (upd wd o (wd 3)))), (g2, .inl (cI, 4, .inl (upd hg o (hg 3)))), (g3, .inl (cI, 576, .inl (upd f (144 * o + k) (f (432 + k))))), (g15, .inl (cZ, 4, .inl (upd thr o 1)))]) [0, 1, 2, 3, 4] rfl) (hD.sub (ws' := [(g0, .inr (9, [.ref g1, .ref g2, .ref g3, .ref g4, .ref g5, .ref g6, .ref g7, .ref g8, .ref g9, .ref g10, .ref g11, .ref g12, .ref g13, .ref g14, .ref g15, .int isz, .int ith, .int ico, .int icl, .int irw, .int ibi, .int ien, .int itr, .int ibl, .int ile, .int igr, .int ibk, .int ist, .int ibr])), (g1, .inl (cI, 4, .inl (upd wd o (wd 3)))), (g2, .inl (cI, 4, .inl (upd hg o (hg 3)))), (g3, .inl (cI, 576, .inl (upd f (144 * o + k) (f (432 + k))))), (g15, .inl (cZ, 4, .inl (upd thr o 1)))]) [0, 1, 2, 3, 4] (by decide) rfl) hS (lv_sub hl [1, 2, 0] rfl)
  exact lp33 (145) 0 pix (by omega) (by omega) (cp2_0.symm) _ _ _ (hP.sub (ws' := [(g0, .inr (9, [.ref g1, .ref g2, .ref g3, .ref g4, .ref g5, .ref g6, .ref g7, .ref g8, .ref g9, .ref g10, .ref g11, .ref g12, .ref g13, .ref g14, .ref g15, .int isz, .int ith, .int ico, .int icl, .int irw, .int ibi, .int ien, .int itr, .int ibl, .int ile, .int igr, .int ibk, .int ist, .int ibr])), (g1, .inl (cI, 4, .inl (upd wd o (wd 3)))), (g2, .inl (cI, 4, .inl (upd hg o (hg 3)))), (g3, .inl (cI, 576, .inl pix)), (g15, .inl (cZ, 4, .inl (upd thr o 1)))]) [0, 1, 2, 3, 4] rfl) (hD.sub (ws' := [(g0, .inr (9, [.ref g1, .ref g2, .ref g3, .ref g4, .ref g5, .ref g6, .ref g7, .ref g8, .ref g9, .ref g10, .ref g11, .ref g12, .ref g13, .ref g14, .ref g15, .int isz, .int ith, .int ico, .int icl, .int irw, .int ibi, .int ien, .int itr, .int ibl, .int ile, .int igr, .int ibk, .int ist, .int ibr])), (g1, .inl (cI, 4, .inl (upd wd o (wd 3)))), (g2, .inl (cI, 4, .inl (upd hg o (hg 3)))), (g3, .inl (cI, 576, .inl pix)), (g15, .inl (cZ, 4, .inl (upd thr o 1)))]) [0, 1, 2, 3, 4] (by decide) rfl) hS (lv_sub hl [1, 2, 0] rfl)
def y_Model_size : MethodName := ⟨"TileForgeModel", "size", "(II)I"⟩
def ws_Model_size : List Cond := .code y_Model_size prog_11_method_7_code 4 (some .int) :: GW
theorem mw_434 : (.code ⟨"TileForgeModel", "size", "(II)I"⟩ prog_11_method_7_code 4 (some .int) : Cond) ∈ GW := List.mem_filter.mpr ⟨(List.mem_append_right _ (List.mem_append_right _ (List.mem_append_right _ (List.mem_append_right _ (List.mem_of_getElem? (i := 54) rfl))))), rfl⟩
theorem hd_Model_size : y_Model_size.cls ≠ "java/lang/invoke/MethodHandle" ∧ y_Model_size.cls ≠ "java/lang/invoke/VarHandle" ∧ (parseMethodDescriptor y_Model_size.desc).map (fun d => d.parameters.length) = some 2 := by decide +kernel
theorem d_Model_size_0 : decode prog_11_method_7_code 0 = .ok (.iload_n 1, 1) := by decide +kernel
theorem d_Model_size_1 : decode prog_11_method_7_code 1 = .ok (.iconst 4, 1) := by decide +kernel
theorem d_Model_size_2 : decode prog_11_method_7_code 2 = .ok (.if_icmp .eq 15, 3) := by decide +kernel
theorem d_Model_size_5 : decode prog_11_method_7_code 5 = .ok (.iload_n 1, 1) := by decide +kernel
theorem d_Model_size_6 : decode prog_11_method_7_code 6 = .ok (.bipush 8, 2) := by decide +kernel
theorem d_Model_size_8 : decode prog_11_method_7_code 8 = .ok (.if_icmp .eq 9, 3) := by decide +kernel
theorem d_Model_size_11 : decode prog_11_method_7_code 11 = .ok (.iload_n 1, 1) := by decide +kernel
theorem d_Model_size_12 : decode prog_11_method_7_code 12 = .ok (.bipush 12, 2) := by decide +kernel
theorem d_Model_size_14 : decode prog_11_method_7_code 14 = .ok (.if_icmp .ne 20, 3) := by decide +kernel
theorem d_Model_size_17 : decode prog_11_method_7_code 17 = .ok (.iload_n 2, 1) := by decide +kernel
theorem d_Model_size_18 : decode prog_11_method_7_code 18 = .ok (.iconst 4, 1) := by decide +kernel
theorem d_Model_size_19 : decode prog_11_method_7_code 19 = .ok (.if_icmp .eq 21, 3) := by decide +kernel
theorem d_Model_size_22 : decode prog_11_method_7_code 22 = .ok (.iload_n 2, 1) := by decide +kernel
theorem d_Model_size_23 : decode prog_11_method_7_code 23 = .ok (.bipush 8, 2) := by decide +kernel
theorem d_Model_size_25 : decode prog_11_method_7_code 25 = .ok (.if_icmp .eq 15, 3) := by decide +kernel
theorem d_Model_size_28 : decode prog_11_method_7_code 28 = .ok (.iload_n 2, 1) := by decide +kernel
theorem d_Model_size_29 : decode prog_11_method_7_code 29 = .ok (.bipush 12, 2) := by decide +kernel
theorem d_Model_size_31 : decode prog_11_method_7_code 31 = .ok (.if_icmp .eq 9, 3) := by decide +kernel
theorem d_Model_size_34 : decode prog_11_method_7_code 34 = .ok (.aload_n 0, 1) := by decide +kernel
theorem d_Model_size_35 : decode prog_11_method_7_code 35 = .ok (.iconst 1, 1) := by decide +kernel
theorem d_Model_size_36 : decode prog_11_method_7_code 36 = .ok (.invokevirtual 60, 3) := by decide +kernel
theorem d_Model_size_39 : decode prog_11_method_7_code 39 = .ok (.ireturn, 1) := by decide +kernel
theorem d_Model_size_40 : decode prog_11_method_7_code 40 = .ok (.aload_n 0, 1) := by decide +kernel
theorem d_Model_size_41 : decode prog_11_method_7_code 41 = .ok (.iconst 0, 1) := by decide +kernel
theorem d_Model_size_42 : decode prog_11_method_7_code 42 = .ok (.putfield 56, 3) := by decide +kernel
theorem d_Model_size_45 : decode prog_11_method_7_code 45 = .ok (.aload_n 0, 1) := by decide +kernel
theorem d_Model_size_46 : decode prog_11_method_7_code 46 = .ok (.getfield 7, 3) := by decide +kernel
theorem d_Model_size_49 : decode prog_11_method_7_code 49 = .ok (.iconst 0, 1) := by decide +kernel
theorem d_Model_size_50 : decode prog_11_method_7_code 50 = .ok (.iload_n 1, 1) := by decide +kernel
theorem d_Model_size_51 : decode prog_11_method_7_code 51 = .ok (.iastore, 1) := by decide +kernel
theorem d_Model_size_52 : decode prog_11_method_7_code 52 = .ok (.aload_n 0, 1) := by decide +kernel
theorem d_Model_size_53 : decode prog_11_method_7_code 53 = .ok (.getfield 13, 3) := by decide +kernel
theorem d_Model_size_56 : decode prog_11_method_7_code 56 = .ok (.iconst 0, 1) := by decide +kernel
theorem d_Model_size_57 : decode prog_11_method_7_code 57 = .ok (.iload_n 2, 1) := by decide +kernel
theorem d_Model_size_58 : decode prog_11_method_7_code 58 = .ok (.iastore, 1) := by decide +kernel
theorem d_Model_size_59 : decode prog_11_method_7_code 59 = .ok (.iconst 0, 1) := by decide +kernel
theorem d_Model_size_60 : decode prog_11_method_7_code 60 = .ok (.istore_n 3, 1) := by decide +kernel
theorem d_Model_size_61 : decode prog_11_method_7_code 61 = .ok (.iload_n 3, 1) := by decide +kernel
theorem d_Model_size_62 : decode prog_11_method_7_code 62 = .ok (.sipush 144, 3) := by decide +kernel
theorem d_Model_size_65 : decode prog_11_method_7_code 65 = .ok (.if_icmp .ge 16, 3) := by decide +kernel
theorem d_Model_size_68 : decode prog_11_method_7_code 68 = .ok (.aload_n 0, 1) := by decide +kernel
theorem d_Model_size_69 : decode prog_11_method_7_code 69 = .ok (.getfield 16, 3) := by decide +kernel
theorem d_Model_size_72 : decode prog_11_method_7_code 72 = .ok (.iload_n 3, 1) := by decide +kernel
theorem d_Model_size_73 : decode prog_11_method_7_code 73 = .ok (.iconst 0, 1) := by decide +kernel
theorem d_Model_size_74 : decode prog_11_method_7_code 74 = .ok (.iastore, 1) := by decide +kernel
theorem d_Model_size_75 : decode prog_11_method_7_code 75 = .ok (.iinc 3 1, 3) := by decide +kernel
theorem d_Model_size_78 : decode prog_11_method_7_code 78 = .ok (.goto (-17), 3) := by decide +kernel
theorem d_Model_size_81 : decode prog_11_method_7_code 81 = .ok (.iload_n 1, 1) := by decide +kernel
theorem d_Model_size_82 : decode prog_11_method_7_code 82 = .ok (.iload_n 2, 1) := by decide +kernel
theorem d_Model_size_83 : decode prog_11_method_7_code 83 = .ok (.imul, 1) := by decide +kernel
theorem d_Model_size_84 : decode prog_11_method_7_code 84 = .ok (.bipush 16, 2) := by decide +kernel
theorem d_Model_size_86 : decode prog_11_method_7_code 86 = .ok (.idiv, 1) := by decide +kernel
theorem d_Model_size_87 : decode prog_11_method_7_code 87 = .ok (.ireturn, 1) := by decide +kernel
def q_mo_size (cI : ClassId) (g0 : Nat) (g1 : Nat) (g2 : Nat) (g3 : Nat) (g4 : Nat) (g5 : Nat) (g6 : Nat) (g7 : Nat) (g8 : Nat) (g9 : Nat) (g10 : Nat) (g11 : Nat) (g12 : Nat) (g13 : Nat) (g14 : Nat) (g15 : Nat) (isz : Int32) (ith : Int32) (ico : Int32) (icl : Int32) (irw : Int32) (ibi : Int32) (ien : Int32) (itr : Int32) (ibl : Int32) (ile : Int32) (igr : Int32) (ibk : Int32) (ist : Int32) (ibr : Int32) (wd : Nat → Int32) (hg : Nat → Int32) (pix : Nat → Int32) (wi : Int32) (he : Int32) : Int32 → va_W → Prop := fun rr ww => rr = (wi * he / 16) ∧ ww = [(g0, .inr (9, [.ref g1, .ref g2, .ref g3, .ref g4, .ref g5, .ref g6, .ref g7, .ref g8, .ref g9, .ref g10, .ref g11, .ref g12, .ref g13, .ref g14, .ref g15, .int isz, .int 0, .int ico, .int icl, .int irw, .int ibi, .int ien, .int itr, .int ibl, .int ile, .int igr, .int ibk, .int ist, .int ibr])), (g1, .inl (cI, 4, .inl (upd wd 0 wi))), (g2, .inl (cI, 4, .inl (upd hg 0 he))), (g3, .inl (cI, 576, .inl (flN pix 0 0 144)))]
set_option maxHeartbeats 4000000 in
set_option maxRecDepth 100000 in
theorem c_mo_size (l : Launch) {D : va_G} {tys : List (ClassId × FieldType)} {cI : ClassId} (hcI : tys[0]? = some (cI, .int)) (g0 : Nat) (g1 : Nat) (g2 : Nat) (g3 : Nat) (g4 : Nat) (g5 : Nat) (g6 : Nat) (g7 : Nat) (g8 : Nat) (g9 : Nat) (g10 : Nat) (g11 : Nat) (g12 : Nat) (g13 : Nat) (g14 : Nat) (g15 : Nat) (isz : Int32) (ith : Int32) (ico : Int32) (icl : Int32) (irw : Int32) (ibi : Int32) (ien : Int32) (itr : Int32) (ibl : Int32) (ile : Int32) (igr : Int32) (ibk : Int32) (ist : Int32) (ibr : Int32) (wd : Nat → Int32) (hg : Nat → Int32) (pix : Nat → Int32) (wi : Int32) (he : Int32) (hsw : sideP wi) (hsh : sideP he) : CsI l D vwCl tys y_Model_size ws_Model_size ({ frames := 0, cells := 0, slots := 0, locals := 0 } : Room) [.ref g0, .int wi, .int he] [(g0, .inr (9, [.ref g1, .ref g2, .ref g3, .ref g4, .ref g5, .ref g6, .ref g7, .ref g8, .ref g9, .ref g10, .ref g11, .ref g12, .ref g13, .ref g14, .ref g15, .int isz, .int ith, .int ico, .int icl, .int irw, .int ibi, .int ien, .int itr, .int ibl, .int ile, .int igr, .int ibk, .int ist, .int ibr])), (g1, .inl (cI, 4, .inl wd)), (g2, .inl (cI, 4, .inl hg)), (g3, .inl (cI, 576, .inl pix))] (q_mo_size cI g0 g1 g2 g3 g4 g5 g6 g7 g8 g9 g10 g11 g12 g13 g14 g15 isz ith ico icl irw ibi ien itr ibl ile igr ibk ist ibr wd hg pix wi he) 0 0 := by
  intro sz
  refine Met.ofW (cc := prog_11_method_7_code) (maxL := 4) (ret := (some .int)) (by decide) rfl ?_
  intro p e s m args below meth c s₁ B hml hv
  obtain ⟨rfl, hsz, hP, hK, hD0, hN⟩ := hv
  have hx := B.exec
  have hb := B.bytes
  have hr := B.returns
  have hts := atoms_spec (ws := ws_Model_size) B.pre
  have hown : s.vm.findClass "TileForgeModel" = some m.cls := findClass_of_methodNamed B.named
  have hlocks := B.notSynchronized
  subst hsz
  have hD := hD0.self (sz := s.heap.size)
  generalize hAe : va_A [(g0, .inr (9, [.ref g1, .ref g2, .ref g3, .ref g4, .ref g5, .ref g6, .ref g7, .ref g8, .ref g9, .ref g10, .ref g11, .ref g12, .ref g13, .ref g14, .ref g15, .int isz, .int ith, .int ico, .int icl, .int irw, .int ibi, .int ien, .int itr, .int ibl, .int ile, .int igr, .int ibk, .int ist, .int ibr])), (g1, .inl (cI, 4, .inl wd)), (g2, .inl (cI, 4, .inl hg)), (g3, .inl (cI, 576, .inl pix))] s.heap.size = A at hD ⊢
  have hA : ∀ q : Nat, s.heap.size ≤ q → A q := fun q h => by rw [← hAe]; exact Or.inr h
  have hS : va_S A s.heap s.heap [] := va_S.rf
  have hP : va_P D vwCl [(g0, .inr (9, [.ref g1, .ref g2, .ref g3, .ref g4, .ref g5, .ref g6, .ref g7, .ref g8, .ref g9, .ref g10, .ref g11, .ref g12, .ref g13, .ref g14, .ref g15, .int isz, .int ith, .int ico, .int icl, .int irw, .int ibi, .int ien, .int itr, .int ibl, .int ile, .int igr, .int ibk, .int ist, .int ibr])), (g1, .inl (cI, 4, .inl wd)), (g2, .inl (cI, 4, .inl hg)), (g3, .inl (cI, 576, .inl pix))] s.heap := hP
  have hl := lv_entry ([.ref g0, .int wi, .int he]) (n := 4) (Nat.le_of_ble_eq_true rfl)
  rw [lg_entry_eq]
  generalize (lg_sl ([.ref g0, .int wi, .int he]) ++ List.replicate (4 - (lg_sl ([.ref g0, .int wi, .int he])).length) Slot.unset).toArray = ls at hl ⊢
  have hl : lv_has ls 4 [(0, .ref g0), (1, .int wi), (2, .int he)] := hl
  refine lv_iload_n hx hb d_Model_size_0 rfl (lv_at hl 1 rfl) ?_
  refine lv_iconst (v := 4) hx hb d_Model_size_1 (by decide) ?_
  refine lv_icmp_eq (tgt := 17) hx hb d_Model_size_2 (by decide) (fun c_2 => ?_) (fun c_2 => ?_)
  · refine lv_iload_n hx hb d_Model_size_17 rfl (lv_at hl 2 rfl) ?_
    refine lv_iconst (v := 4) hx hb d_Model_size_18 (by decide) ?_
    refine lv_icmp_eq (tgt := 40) hx hb d_Model_size_19 (by decide) (fun c_19 => ?_) (fun c_19 => ?_)
    · refine lv_aload_n hx hb d_Model_size_40 rfl (lv_at hl 0 rfl) ?_
      refine lv_iconst (v := 0) hx hb d_Model_size_41 (by decide) ?_
      refine va_put (D := D) (ci := 9) (v := .int 0) (ty := .int) (C := "TileForgeModel") (T := T_Model) (N := 29) hx hb hts (cs_in in_Model) ty_Model tok_Model nm_Model hown hK hP hD hS 0 rfl rfl 16 (by decide) (hts _ (cs_m mw_343)) (fun _ h9 => h9) rfl (by decide +kernel) rfl rfl (Nat.le_of_ble_eq_true rfl) d_Model_size_42 (fun H locs hP hD hS => ?_)
      have hP : va_P D vwCl [(g0, .inr (9, [.ref g1, .ref g2, .ref g3, .ref g4, .ref g5, .ref g6, .ref g7, .ref g8, .ref g9, .ref g10, .ref g11, .ref g12, .ref g13, .ref g14, .ref g15, .int isz, .int 0, .int ico, .int icl, .int irw, .int ibi, .int ien, .int itr, .int ibl, .int ile, .int igr, .int ibk, .int ist, .int ibr])), (g1, .inl (cI, 4, .inl wd)), (g2, .inl (cI, 4, .inl hg)), (g3, .inl (cI, 576, .inl pix))] H := hP
      have hD : va_D A [(g0, .inr (9, [.ref g1, .ref g2, .ref g3, .ref g4, .ref g5, .ref g6, .ref g7, .ref g8, .ref g9, .ref g10, .ref g11, .ref g12, .ref g13, .ref g14, .ref g15, .int isz, .int 0, .int ico, .int icl, .int irw, .int ibi, .int ien, .int itr, .int ibl, .int ile, .int igr, .int ibk, .int ist, .int ibr])), (g1, .inl (cI, 4, .inl wd)), (g2, .inl (cI, 4, .inl hg)), (g3, .inl (cI, 576, .inl pix))] := hD
      refine lv_aload_n hx hb d_Model_size_45 rfl (lv_at hl 0 rfl) ?_
      refine va_get (D := D) (ci := 9) (v := .ref g1) (C := "TileForgeModel") (T := T_Model) (N := 29) hx hb hts (cs_in in_Model) hown hK hP 0 rfl rfl 0 (by decide) (hts _ (cs_m mw_348)) (fun _ h9 => h9) rfl d_Model_size_46 ?_
      refine lv_iconst (v := 0) hx hb d_Model_size_49 (by decide) ?_
      refine lv_iload_n hx hb d_Model_size_50 rfl (lv_at hl 1 rfl) ?_
      refine cs_iast (j := 0) hx hb hK hcI hP hD hS 1 rfl (rfl) (by decide) (by decide) d_Model_size_51 (fun H locs hP hD hS => ?_)
      have hP : va_P D vwCl [(g0, .inr (9, [.ref g1, .ref g2, .ref g3, .ref g4, .ref g5, .ref g6, .ref g7, .ref g8, .ref g9, .ref g10, .ref g11, .ref g12, .ref g13, .ref g14, .ref g15, .int isz, .int 0, .int ico, .int icl, .int irw, .int ibi, .int ien, .int itr, .int ibl, .int ile, .int igr, .int ibk, .int ist, .int ibr])), (g1, .inl (cI, 4, .inl (upd wd 0 wi))), (g2, .inl (cI, 4, .inl hg)), (g3, .inl (cI, 576, .inl pix))] H := hP
      have hD : va_D A [(g0, .inr (9, [.ref g1, .ref g2, .ref g3, .ref g4, .ref g5, .ref g6, .ref g7, .ref g8, .ref g9, .ref g10, .ref g11, .ref g12, .ref g13, .ref g14, .ref g15, .int isz, .int 0, .int ico, .int icl, .int irw, .int ibi, .int ien, .int itr, .int ibl, .int ile, .int igr, .int ibk, .int ist, .int ibr])), (g1, .inl (cI, 4, .inl (upd wd 0 wi))), (g2, .inl (cI, 4, .inl hg)), (g3, .inl (cI, 576, .inl pix))] := hD
      refine lv_aload_n hx hb d_Model_size_52 rfl (lv_at hl 0 rfl) ?_
      refine va_get (D := D) (ci := 9) (v := .ref g2) (C := "TileForgeModel") (T := T_Model) (N := 29) hx hb hts (cs_in in_Model) hown hK hP 0 rfl rfl 1 (by decide) (hts _ (cs_m mw_352)) (fun _ h9 => h9) rfl d_Model_size_53 ?_
      refine lv_iconst (v := 0) hx hb d_Model_size_56 (by decide) ?_
      refine lv_iload_n hx hb d_Model_size_57 rfl (lv_at hl 2 rfl) ?_
      refine cs_iast (j := 0) hx hb hK hcI hP hD hS 2 rfl (rfl) (by decide) (by decide) d_Model_size_58 (fun H locs hP hD hS => ?_)
      have hP : va_P D vwCl [(g0, .inr (9, [.ref g1, .ref g2, .ref g3, .ref g4, .ref g5, .ref g6, .ref g7, .ref g8, .ref g9, .ref g10, .ref g11, .ref g12, .ref g13, .ref g14, .ref g15, .int isz, .int 0, .int ico, .int icl, .int irw, .int ibi, .int ien, .int itr, .int ibl, .int ile, .int igr, .int ibk, .int ist, .int ibr])), (g1, .inl (cI, 4, .inl (upd wd 0 wi))), (g2, .inl (cI, 4, .inl (upd hg 0 he))), (g3, .inl (cI, 576, .inl pix))] H := hP
      have hD : va_D A [(g0, .inr (9, [.ref g1, .ref g2, .ref g3, .ref g4, .ref g5, .ref g6, .ref g7, .ref g8, .ref g9, .ref g10, .ref g11, .ref g12, .ref g13, .ref g14, .ref g15, .int isz, .int 0, .int ico, .int icl, .int irw, .int ibi, .int ien, .int itr, .int ibl, .int ile, .int igr, .int ibk, .int ist, .int ibr])), (g1, .inl (cI, 4, .inl (upd wd 0 wi))), (g2, .inl (cI, 4, .inl (upd hg 0 he))), (g3, .inl (cI, 576, .inl pix))] := hD
      refine lv_iconst (v := 0) hx hb d_Model_size_59 (by decide) ?_
      refine lv_istore_n (lv' := [(3, .int 0), (0, .ref g0), (1, .int wi), (2, .int he)]) hx hb d_Model_size_60 rfl hl (by decide) rfl (fun ls hl => ?_)
      have lp61 : ∀ (n : Nat) (k : Nat) (f : Nat → Int32), (145 ≤ k + n) → (k ≤ 144) → (f = flN pix 0 0 k) → ∀ (H : Heap) (locs : List Loc) (ls : Array Slot), va_P D vwCl [(g0, .inr (9, [.ref g1, .ref g2, .ref g3, .ref g4, .ref g5, .ref g6, .ref g7, .ref g8, .ref g9, .ref g10, .ref g11, .ref g12, .ref g13, .ref g14, .ref g15, .int isz, .int 0, .int ico, .int icl, .int irw, .int ibi, .int ien, .int itr, .int ibl, .int ile, .int igr, .int ibk, .int ist, .int ibr])), (g1, .inl (cI, 4, .inl (upd wd 0 wi))), (g2, .inl (cI, 4, .inl (upd hg 0 he))), (g3, .inl (cI, 576, .inl f))] H → va_D A [(g0, .inr (9, [.ref g1, .ref g2, .ref g3, .ref g4, .ref g5, .ref g6, .ref g7, .ref g8, .ref g9, .ref g10, .ref g11, .ref g12, .ref g13, .ref g14, .ref g15, .int isz, .int 0, .int ico, .int icl, .int irw, .int ibi, .int ien, .int itr, .int ibl, .int ile, .int igr, .int ibk, .int ist, .int ibr])), (g1, .inl (cI, 4, .inl (upd wd 0 wi))), (g2, .inl (cI, 4, .inl (upd hg 0 he))), (g3, .inl (cI, 576, .inl f))] → va_S A s.heap H locs → lv_has ls 4 [(0, .ref g0), (1, .int wi), (2, .int he), (3, .int (nI k))] → W p l e ({ frames := 0, cells := 0, slots := 0, locals := 0 } : Room) s m ([.ref g0, .int wi, .int he] : List Value).toArray below meth c H locs 0 0 (MQ below (va_Qi (q_mo_size cI g0 g1 g2 g3 g4 g5 g6 g7 g8 g9 g10 g11 g12 g13 g14 g15 isz ith ico icl irw ibi ien itr ibl ile igr ibk ist ibr wd hg pix wi he) (cs_B D vwCl tys A) A) ([.ref g0, .int wi, .int he] : List Value).toArray s 0 0 A) (F0 m 61 ls []) := by
        intro n
        induction n with
        | zero =>
          intro k f hf hk hf2
          exact absurd hf (by omega)
        | succ n ih61 =>
          intro k f hf hk hf2 H locs ls hP hD hS hl
          refine lv_iload_n hx hb d_Model_size_61 rfl (lv_at hl 3 rfl) ?_
          refine lv_sipush (v := 144) hx hb d_Model_size_62 (by decide) ?_
          refine lv_icmp_ge (tgt := 81) hx hb d_Model_size_65 (by decide) (fun c_65 => ?_) (fun c_65 => ?_)
          · have hk2 := (nI_leI (a := 144) (b := k) (by decide) (by omega)).mp c_65
            have hk3 : k = 144 := by omega
            subst hk3
            refine lv_iload_n hx hb d_Model_size_81 rfl (lv_at hl 1 rfl) ?_
            refine lv_iload_n hx hb d_Model_size_82 rfl (lv_at hl 2 rfl) ?_
            refine lv_imul hx hb d_Model_size_83 ?_
            refine lv_bipush (v := 16) hx hb d_Model_size_84 (by decide) ?_
            refine lv_idiv hx hb d_Model_size_86 (by decide) ?_
            exact W.iret (v := ((wi * he) / 16)) hx hb hr (fun t ht hW => ⟨⟨((wi * he) / 16), [(g0, .inr (9, [.ref g1, .ref g2, .ref g3, .ref g4, .ref g5, .ref g6, .ref g7, .ref g8, .ref g9, .ref g10, .ref g11, .ref g12, .ref g13, .ref g14, .ref g15, .int isz, .int 0, .int ico, .int icl, .int irw, .int ibi, .int ien, .int itr, .int ibl, .int ile, .int igr, .int ibk, .int ist, .int ibr])), (g1, .inl (cI, 4, .inl (upd wd 0 wi))), (g2, .inl (cI, 4, .inl (upd hg 0 he))), (g3, .inl (cI, 576, .inl f))], rfl, ⟨(rfl), (by rw [hf2])⟩, by rw [ht]; exact hP, va_K.moved hW.alike hK, hD⟩, hS.F ht⟩) hS.2.2 d_Model_size_87
          · have hk2 : k < 144 := Nat.not_le.mp (fun h => c_65 ((nI_leI (a := 144) (b := k) (by decide) (by omega)).mpr h))
            refine lv_aload_n hx hb d_Model_size_68 rfl (lv_at hl 0 rfl) ?_
            refine va_get (D := D) (ci := 9) (v := .ref g3) (C := "TileForgeModel") (T := T_Model) (N := 29) hx hb hts (cs_in in_Model) hown hK hP 0 rfl rfl 2 (by decide) (hts _ (cs_m mw_354)) (fun _ h9 => h9) rfl d_Model_size_69 ?_
            refine lv_iload_n hx hb d_Model_size_72 rfl (lv_at hl 3 rfl) ?_
            refine lv_iconst (v := 0) hx hb d_Model_size_73 (by decide) ?_
            refine cs_iast (j := 0 + k) hx hb hK hcI hP hD hS 3 rfl (congrArg nI (by omega)) (by omega) (by decide) d_Model_size_74 (fun H locs hP hD hS => ?_)
            have hP : va_P D vwCl [(g0, .inr (9, [.ref g1, .ref g2, .ref g3, .ref g4, .ref g5, .ref g6, .ref g7, .ref g8, .ref g9, .ref g10, .ref g11, .ref g12, .ref g13, .ref g14, .ref g15, .int isz, .int 0, .int ico, .int icl, .int irw, .int ibi, .int ien, .int itr, .int ibl, .int ile, .int igr, .int ibk, .int ist, .int ibr])), (g1, .inl (cI, 4, .inl (upd wd 0 wi))), (g2, .inl (cI, 4, .inl (upd hg 0 he))), (g3, .inl (cI, 576, .inl (upd f (0 + k) 0)))] H := hP
            have hD : va_D A [(g0, .inr (9, [.ref g1, .ref g2, .ref g3, .ref g4, .ref g5, .ref g6, .ref g7, .ref g8, .ref g9, .ref g10, .ref g11, .ref g12, .ref g13, .ref g14, .ref g15, .int isz, .int 0, .int ico, .int icl, .int irw, .int ibi, .int ien, .int itr, .int ibl, .int ile, .int igr, .int ibk, .int ist, .int ibr])), (g1, .inl (cI, 4, .inl (upd wd 0 wi))), (g2, .inl (cI, 4, .inl (upd hg 0 he))), (g3, .inl (cI, 576, .inl (upd f (0 + k) 0)))] := hD
            refine lv_iinc (v := nI (k + 1)) (lv' := [(3, .int (nI (k + 1))), (0, .ref g0), (1, .int wi), (2, .int he)]) hx hb d_Model_size_75 hl (k := 3) rfl (nI_1 _) (by decide) rfl (fun ls hl => ?_)
            refine lv_goto (tgt := 61) hx hb d_Model_size_78 (by decide) ?_
            exact ih61 (k + 1) (upd f (0 + k) 0) (by omega) (by omega) (by rw [hf2]; exact flN_s) _ _ _ (hP.sub (ws' := [(g0, .inr (9, [.ref g1, .ref g2, .ref g3, .ref g4, .ref g5, .ref g6, .ref g7, .ref g8, .ref g9, .ref g10, .ref g11, .ref g12, .ref g13, .ref g14, .ref g15, .int isz, .int 0, .int ico, .int icl, .int irw, .int ibi, .int ien, .int itr, .int ibl, .int ile, .int igr, .int ibk, .int ist, .int ibr])), (g1, .inl (cI, 4, .inl (upd wd 0 wi))), (g2, .inl (cI, 4, .inl (upd hg 0 he))), (g3, .inl (cI, 576, .inl (upd f (0 + k) 0)))]) [0, 1, 2, 3] rfl) (hD.sub (ws' := [(g0, .inr (9, [.ref g1, .ref g2, .ref g3, .ref g4, .ref g5, .ref g6, .ref g7, .ref g8, .ref g9, .ref g10, .ref g11, .ref g12, .ref g13, .ref g14, .ref g15, .int isz, .int 0, .int ico, .int icl, .int irw, .int ibi, .int ien, .int itr, .int ibl, .int ile, .int igr, .int ibk, .int ist, .int ibr])), (g1, .inl (cI, 4, .inl (upd wd 0 wi))), (g2, .inl (cI, 4, .inl (upd hg 0 he))), (g3, .inl (cI, 576, .inl (upd f (0 + k) 0)))]) [0, 1, 2, 3] (by decide) rfl) hS (lv_sub hl [1, 2, 3, 0] rfl)
      exact lp61 (145) 0 pix (by omega) (by omega) (flN_0.symm) _ _ _ (hP.sub (ws' := [(g0, .inr (9, [.ref g1, .ref g2, .ref g3, .ref g4, .ref g5, .ref g6, .ref g7, .ref g8, .ref g9, .ref g10, .ref g11, .ref g12, .ref g13, .ref g14, .ref g15, .int isz, .int 0, .int ico, .int icl, .int irw, .int ibi, .int ien, .int itr, .int ibl, .int ile, .int igr, .int ibk, .int ist, .int ibr])), (g1, .inl (cI, 4, .inl (upd wd 0 wi))), (g2, .inl (cI, 4, .inl (upd hg 0 he))), (g3, .inl (cI, 576, .inl pix))]) [0, 1, 2, 3] rfl) (hD.sub (ws' := [(g0, .inr (9, [.ref g1, .ref g2, .ref g3, .ref g4, .ref g5, .ref g6, .ref g7, .ref g8, .ref g9, .ref g10, .ref g11, .ref g12, .ref g13, .ref g14, .ref g15, .int isz, .int 0, .int ico, .int icl, .int irw, .int ibi, .int ien, .int itr, .int ibl, .int ile, .int igr, .int ibk, .int ist, .int ibr])), (g1, .inl (cI, 4, .inl (upd wd 0 wi))), (g2, .inl (cI, 4, .inl (upd hg 0 he))), (g3, .inl (cI, 576, .inl pix))]) [0, 1, 2, 3] (by decide) rfl) hS (lv_sub hl [1, 2, 3, 0] rfl)
    · refine lv_iload_n hx hb d_Model_size_22 rfl (lv_at hl 2 rfl) ?_
      refine lv_bipush (v := 8) hx hb d_Model_size_23 (by decide) ?_
      refine lv_icmp_eq (tgt := 40) hx hb d_Model_size_25 (by decide) (fun c_25 => ?_) (fun c_25 => ?_)
      · refine lv_aload_n hx hb d_Model_size_40 rfl (lv_at hl 0 rfl) ?_
        refine lv_iconst (v := 0) hx hb d_Model_size_41 (by decide) ?_
        refine va_put (D := D) (ci := 9) (v := .int 0) (ty := .int) (C := "TileForgeModel") (T := T_Model) (N := 29) hx hb hts (cs_in in_Model) ty_Model tok_Model nm_Model hown hK hP hD hS 0 rfl rfl 16 (by decide) (hts _ (cs_m mw_343)) (fun _ h9 => h9) rfl (by decide +kernel) rfl rfl (Nat.le_of_ble_eq_true rfl) d_Model_size_42 (fun H locs hP hD hS => ?_)
        have hP : va_P D vwCl [(g0, .inr (9, [.ref g1, .ref g2, .ref g3, .ref g4, .ref g5, .ref g6, .ref g7, .ref g8, .ref g9, .ref g10, .ref g11, .ref g12, .ref g13, .ref g14, .ref g15, .int isz, .int 0, .int ico, .int icl, .int irw, .int ibi, .int ien, .int itr, .int ibl, .int ile, .int igr, .int ibk, .int ist, .int ibr])), (g1, .inl (cI, 4, .inl wd)), (g2, .inl (cI, 4, .inl hg)), (g3, .inl (cI, 576, .inl pix))] H := hP
        have hD : va_D A [(g0, .inr (9, [.ref g1, .ref g2, .ref g3, .ref g4, .ref g5, .ref g6, .ref g7, .ref g8, .ref g9, .ref g10, .ref g11, .ref g12, .ref g13, .ref g14, .ref g15, .int isz, .int 0, .int ico, .int icl, .int irw, .int ibi, .int ien, .int itr, .int ibl, .int ile, .int igr, .int ibk, .int ist, .int ibr])), (g1, .inl (cI, 4, .inl wd)), (g2, .inl (cI, 4, .inl hg)), (g3, .inl (cI, 576, .inl pix))] := hD
        refine lv_aload_n hx hb d_Model_size_45 rfl (lv_at hl 0 rfl) ?_
        refine va_get (D := D) (ci := 9) (v := .ref g1) (C := "TileForgeModel") (T := T_Model) (N := 29) hx hb hts (cs_in in_Model) hown hK hP 0 rfl rfl 0 (by decide) (hts _ (cs_m mw_348)) (fun _ h9 => h9) rfl d_Model_size_46 ?_
        refine lv_iconst (v := 0) hx hb d_Model_size_49 (by decide) ?_
        refine lv_iload_n hx hb d_Model_size_50 rfl (lv_at hl 1 rfl) ?_
        refine cs_iast (j := 0) hx hb hK hcI hP hD hS 1 rfl (rfl) (by decide) (by decide) d_Model_size_51 (fun H locs hP hD hS => ?_)
        have hP : va_P D vwCl [(g0, .inr (9, [.ref g1, .ref g2, .ref g3, .ref g4, .ref g5, .ref g6, .ref g7, .ref g8, .ref g9, .ref g10, .ref g11, .ref g12, .ref g13, .ref g14, .ref g15, .int isz, .int 0, .int ico, .int icl, .int irw, .int ibi, .int ien, .int itr, .int ibl, .int ile, .int igr, .int ibk, .int ist, .int ibr])), (g1, .inl (cI, 4, .inl (upd wd 0 wi))), (g2, .inl (cI, 4, .inl hg)), (g3, .inl (cI, 576, .inl pix))] H := hP
        have hD : va_D A [(g0, .inr (9, [.ref g1, .ref g2, .ref g3, .ref g4, .ref g5, .ref g6, .ref g7, .ref g8, .ref g9, .ref g10, .ref g11, .ref g12, .ref g13, .ref g14, .ref g15, .int isz, .int 0, .int ico, .int icl, .int irw, .int ibi, .int ien, .int itr, .int ibl, .int ile, .int igr, .int ibk, .int ist, .int ibr])), (g1, .inl (cI, 4, .inl (upd wd 0 wi))), (g2, .inl (cI, 4, .inl hg)), (g3, .inl (cI, 576, .inl pix))] := hD
        refine lv_aload_n hx hb d_Model_size_52 rfl (lv_at hl 0 rfl) ?_
        refine va_get (D := D) (ci := 9) (v := .ref g2) (C := "TileForgeModel") (T := T_Model) (N := 29) hx hb hts (cs_in in_Model) hown hK hP 0 rfl rfl 1 (by decide) (hts _ (cs_m mw_352)) (fun _ h9 => h9) rfl d_Model_size_53 ?_
        refine lv_iconst (v := 0) hx hb d_Model_size_56 (by decide) ?_
        refine lv_iload_n hx hb d_Model_size_57 rfl (lv_at hl 2 rfl) ?_
        refine cs_iast (j := 0) hx hb hK hcI hP hD hS 2 rfl (rfl) (by decide) (by decide) d_Model_size_58 (fun H locs hP hD hS => ?_)
        have hP : va_P D vwCl [(g0, .inr (9, [.ref g1, .ref g2, .ref g3, .ref g4, .ref g5, .ref g6, .ref g7, .ref g8, .ref g9, .ref g10, .ref g11, .ref g12, .ref g13, .ref g14, .ref g15, .int isz, .int 0, .int ico, .int icl, .int irw, .int ibi, .int ien, .int itr, .int ibl, .int ile, .int igr, .int ibk, .int ist, .int ibr])), (g1, .inl (cI, 4, .inl (upd wd 0 wi))), (g2, .inl (cI, 4, .inl (upd hg 0 he))), (g3, .inl (cI, 576, .inl pix))] H := hP
        have hD : va_D A [(g0, .inr (9, [.ref g1, .ref g2, .ref g3, .ref g4, .ref g5, .ref g6, .ref g7, .ref g8, .ref g9, .ref g10, .ref g11, .ref g12, .ref g13, .ref g14, .ref g15, .int isz, .int 0, .int ico, .int icl, .int irw, .int ibi, .int ien, .int itr, .int ibl, .int ile, .int igr, .int ibk, .int ist, .int ibr])), (g1, .inl (cI, 4, .inl (upd wd 0 wi))), (g2, .inl (cI, 4, .inl (upd hg 0 he))), (g3, .inl (cI, 576, .inl pix))] := hD
        refine lv_iconst (v := 0) hx hb d_Model_size_59 (by decide) ?_
        refine lv_istore_n (lv' := [(3, .int 0), (0, .ref g0), (1, .int wi), (2, .int he)]) hx hb d_Model_size_60 rfl hl (by decide) rfl (fun ls hl => ?_)
        have lp61 : ∀ (n : Nat) (k : Nat) (f : Nat → Int32), (145 ≤ k + n) → (k ≤ 144) → (f = flN pix 0 0 k) → ∀ (H : Heap) (locs : List Loc) (ls : Array Slot), va_P D vwCl [(g0, .inr (9, [.ref g1, .ref g2, .ref g3, .ref g4, .ref g5, .ref g6, .ref g7, .ref g8, .ref g9, .ref g10, .ref g11, .ref g12, .ref g13, .ref g14, .ref g15, .int isz, .int 0, .int ico, .int icl, .int irw, .int ibi, .int ien, .int itr, .int ibl, .int ile, .int igr, .int ibk, .int ist, .int ibr])), (g1, .inl (cI, 4, .inl (upd wd 0 wi))), (g2, .inl (cI, 4, .inl (upd hg 0 he))), (g3, .inl (cI, 576, .inl f))] H → va_D A [(g0, .inr (9, [.ref g1, .ref g2, .ref g3, .ref g4, .ref g5, .ref g6, .ref g7, .ref g8, .ref g9, .ref g10, .ref g11, .ref g12, .ref g13, .ref g14, .ref g15, .int isz, .int 0, .int ico, .int icl, .int irw, .int ibi, .int ien, .int itr, .int ibl, .int ile, .int igr, .int ibk, .int ist, .int ibr])), (g1, .inl (cI, 4, .inl (upd wd 0 wi))), (g2, .inl (cI, 4, .inl (upd hg 0 he))), (g3, .inl (cI, 576, .inl f))] → va_S A s.heap H locs → lv_has ls 4 [(0, .ref g0), (1, .int wi), (2, .int he), (3, .int (nI k))] → W p l e ({ frames := 0, cells := 0, slots := 0, locals := 0 } : Room) s m ([.ref g0, .int wi, .int he] : List Value).toArray below meth c H locs 0 0 (MQ below (va_Qi (q_mo_size cI g0 g1 g2 g3 g4 g5 g6 g7 g8 g9 g10 g11 g12 g13 g14 g15 isz ith ico icl irw ibi ien itr ibl ile igr ibk ist ibr wd hg pix wi he) (cs_B D vwCl tys A) A) ([.ref g0, .int wi, .int he] : List Value).toArray s 0 0 A) (F0 m 61 ls []) := by
          intro n
          induction n with
          | zero =>
            intro k f hf hk hf2
            exact absurd hf (by omega)
          | succ n ih61 =>
            intro k f hf hk hf2 H locs ls hP hD hS hl
            refine lv_iload_n hx hb d_Model_size_61 rfl (lv_at hl 3 rfl) ?_
            refine lv_sipush (v := 144) hx hb d_Model_size_62 (by decide) ?_
            refine lv_icmp_ge (tgt := 81) hx hb d_Model_size_65 (by decide) (fun c_65 => ?_) (fun c_65 => ?_)
            · have hk2 := (nI_leI (a := 144) (b := k) (by decide) (by omega)).mp c_65
              have hk3 : k = 144 := by omega
              subst hk3
              refine lv_iload_n hx hb d_Model_size_81 rfl (lv_at hl 1 rfl) ?_
              refine lv_iload_n hx hb d_Model_size_82 rfl (lv_at hl 2 rfl) ?_
              refine lv_imul hx hb d_Model_size_83 ?_
              refine lv_bipush (v := 16) hx hb d_Model_size_84 (by decide) ?_
              refine lv_idiv hx hb d_Model_size_86 (by decide) ?_
              exact W.iret (v := ((wi * he) / 16)) hx hb hr (fun t ht hW => ⟨⟨((wi * he) / 16), [(g0, .inr (9, [.ref g1, .ref g2, .ref g3, .ref g4, .ref g5, .ref g6, .ref g7, .ref g8, .ref g9, .ref g10, .ref g11, .ref g12, .ref g13, .ref g14, .ref g15, .int isz, .int 0, .int ico, .int icl, .int irw, .int ibi, .int ien, .int itr, .int ibl, .int ile, .int igr, .int ibk, .int ist, .int ibr])), (g1, .inl (cI, 4, .inl (upd wd 0 wi))), (g2, .inl (cI, 4, .inl (upd hg 0 he))), (g3, .inl (cI, 576, .inl f))], rfl, ⟨(rfl), (by rw [hf2])⟩, by rw [ht]; exact hP, va_K.moved hW.alike hK, hD⟩, hS.F ht⟩) hS.2.2 d_Model_size_87
            · have hk2 : k < 144 := Nat.not_le.mp (fun h => c_65 ((nI_leI (a := 144) (b := k) (by decide) (by omega)).mpr h))
              refine lv_aload_n hx hb d_Model_size_68 rfl (lv_at hl 0 rfl) ?_
              refine va_get (D := D) (ci := 9) (v := .ref g3) (C := "TileForgeModel") (T := T_Model) (N := 29) hx hb hts (cs_in in_Model) hown hK hP 0 rfl rfl 2 (by decide) (hts _ (cs_m mw_354)) (fun _ h9 => h9) rfl d_Model_size_69 ?_
              refine lv_iload_n hx hb d_Model_size_72 rfl (lv_at hl 3 rfl) ?_
              refine lv_iconst (v := 0) hx hb d_Model_size_73 (by decide) ?_
              refine cs_iast (j := 0 + k) hx hb hK hcI hP hD hS 3 rfl (congrArg nI (by omega)) (by omega) (by decide) d_Model_size_74 (fun H locs hP hD hS => ?_)
              have hP : va_P D vwCl [(g0, .inr (9, [.ref g1, .ref g2, .ref g3, .ref g4, .ref g5, .ref g6, .ref g7, .ref g8, .ref g9, .ref g10, .ref g11, .ref g12, .ref g13, .ref g14, .ref g15, .int isz, .int 0, .int ico, .int icl, .int irw, .int ibi, .int ien, .int itr, .int ibl, .int ile, .int igr, .int ibk, .int ist, .int ibr])), (g1, .inl (cI, 4, .inl (upd wd 0 wi))), (g2, .inl (cI, 4, .inl (upd hg 0 he))), (g3, .inl (cI, 576, .inl (upd f (0 + k) 0)))] H := hP
              have hD : va_D A [(g0, .inr (9, [.ref g1, .ref g2, .ref g3, .ref g4, .ref g5, .ref g6, .ref g7, .ref g8, .ref g9, .ref g10, .ref g11, .ref g12, .ref g13, .ref g14, .ref g15, .int isz, .int 0, .int ico, .int icl, .int irw, .int ibi, .int ien, .int itr, .int ibl, .int ile, .int igr, .int ibk, .int ist, .int ibr])), (g1, .inl (cI, 4, .inl (upd wd 0 wi))), (g2, .inl (cI, 4, .inl (upd hg 0 he))), (g3, .inl (cI, 576, .inl (upd f (0 + k) 0)))] := hD
              refine lv_iinc (v := nI (k + 1)) (lv' := [(3, .int (nI (k + 1))), (0, .ref g0), (1, .int wi), (2, .int he)]) hx hb d_Model_size_75 hl (k := 3) rfl (nI_1 _) (by decide) rfl (fun ls hl => ?_)
              refine lv_goto (tgt := 61) hx hb d_Model_size_78 (by decide) ?_
              exact ih61 (k + 1) (upd f (0 + k) 0) (by omega) (by omega) (by rw [hf2]; exact flN_s) _ _ _ (hP.sub (ws' := [(g0, .inr (9, [.ref g1, .ref g2, .ref g3, .ref g4, .ref g5, .ref g6, .ref g7, .ref g8, .ref g9, .ref g10, .ref g11, .ref g12, .ref g13, .ref g14, .ref g15, .int isz, .int 0, .int ico, .int icl, .int irw, .int ibi, .int ien, .int itr, .int ibl, .int ile, .int igr, .int ibk, .int ist, .int ibr])), (g1, .inl (cI, 4, .inl (upd wd 0 wi))), (g2, .inl (cI, 4, .inl (upd hg 0 he))), (g3, .inl (cI, 576, .inl (upd f (0 + k) 0)))]) [0, 1, 2, 3] rfl) (hD.sub (ws' := [(g0, .inr (9, [.ref g1, .ref g2, .ref g3, .ref g4, .ref g5, .ref g6, .ref g7, .ref g8, .ref g9, .ref g10, .ref g11, .ref g12, .ref g13, .ref g14, .ref g15, .int isz, .int 0, .int ico, .int icl, .int irw, .int ibi, .int ien, .int itr, .int ibl, .int ile, .int igr, .int ibk, .int ist, .int ibr])), (g1, .inl (cI, 4, .inl (upd wd 0 wi))), (g2, .inl (cI, 4, .inl (upd hg 0 he))), (g3, .inl (cI, 576, .inl (upd f (0 + k) 0)))]) [0, 1, 2, 3] (by decide) rfl) hS (lv_sub hl [1, 2, 3, 0] rfl)
        exact lp61 (145) 0 pix (by omega) (by omega) (flN_0.symm) _ _ _ (hP.sub (ws' := [(g0, .inr (9, [.ref g1, .ref g2, .ref g3, .ref g4, .ref g5, .ref g6, .ref g7, .ref g8, .ref g9, .ref g10, .ref g11, .ref g12, .ref g13, .ref g14, .ref g15, .int isz, .int 0, .int ico, .int icl, .int irw, .int ibi, .int ien, .int itr, .int ibl, .int ile, .int igr, .int ibk, .int ist, .int ibr])), (g1, .inl (cI, 4, .inl (upd wd 0 wi))), (g2, .inl (cI, 4, .inl (upd hg 0 he))), (g3, .inl (cI, 576, .inl pix))]) [0, 1, 2, 3] rfl) (hD.sub (ws' := [(g0, .inr (9, [.ref g1, .ref g2, .ref g3, .ref g4, .ref g5, .ref g6, .ref g7, .ref g8, .ref g9, .ref g10, .ref g11, .ref g12, .ref g13, .ref g14, .ref g15, .int isz, .int 0, .int ico, .int icl, .int irw, .int ibi, .int ien, .int itr, .int ibl, .int ile, .int igr, .int ibk, .int ist, .int ibr])), (g1, .inl (cI, 4, .inl (upd wd 0 wi))), (g2, .inl (cI, 4, .inl (upd hg 0 he))), (g3, .inl (cI, 576, .inl pix))]) [0, 1, 2, 3] (by decide) rfl) hS (lv_sub hl [1, 2, 3, 0] rfl)
      · refine lv_iload_n hx hb d_Model_size_28 rfl (lv_at hl 2 rfl) ?_
        refine lv_bipush (v := 12) hx hb d_Model_size_29 (by decide) ?_
        refine lv_icmp_eq (tgt := 40) hx hb d_Model_size_31 (by decide) (fun c_31 => ?_) (fun c_31 => ?_)
        · refine lv_aload_n hx hb d_Model_size_40 rfl (lv_at hl 0 rfl) ?_
          refine lv_iconst (v := 0) hx hb d_Model_size_41 (by decide) ?_
          refine va_put (D := D) (ci := 9) (v := .int 0) (ty := .int) (C := "TileForgeModel") (T := T_Model) (N := 29) hx hb hts (cs_in in_Model) ty_Model tok_Model nm_Model hown hK hP hD hS 0 rfl rfl 16 (by decide) (hts _ (cs_m mw_343)) (fun _ h9 => h9) rfl (by decide +kernel) rfl rfl (Nat.le_of_ble_eq_true rfl) d_Model_size_42 (fun H locs hP hD hS => ?_)
          have hP : va_P D vwCl [(g0, .inr (9, [.ref g1, .ref g2, .ref g3, .ref g4, .ref g5, .ref g6, .ref g7, .ref g8, .ref g9, .ref g10, .ref g11, .ref g12, .ref g13, .ref g14, .ref g15, .int isz, .int 0, .int ico, .int icl, .int irw, .int ibi, .int ien, .int itr, .int ibl, .int ile, .int igr, .int ibk, .int ist, .int ibr])), (g1, .inl (cI, 4, .inl wd)), (g2, .inl (cI, 4, .inl hg)), (g3, .inl (cI, 576, .inl pix))] H := hP
          have hD : va_D A [(g0, .inr (9, [.ref g1, .ref g2, .ref g3, .ref g4, .ref g5, .ref g6, .ref g7, .ref g8, .ref g9, .ref g10, .ref g11, .ref g12, .ref g13, .ref g14, .ref g15, .int isz, .int 0, .int ico, .int icl, .int irw, .int ibi, .int ien, .int itr, .int ibl, .int ile, .int igr, .int ibk, .int ist, .int ibr])), (g1, .inl (cI, 4, .inl wd)), (g2, .inl (cI, 4, .inl hg)), (g3, .inl (cI, 576, .inl pix))] := hD
          refine lv_aload_n hx hb d_Model_size_45 rfl (lv_at hl 0 rfl) ?_
          refine va_get (D := D) (ci := 9) (v := .ref g1) (C := "TileForgeModel") (T := T_Model) (N := 29) hx hb hts (cs_in in_Model) hown hK hP 0 rfl rfl 0 (by decide) (hts _ (cs_m mw_348)) (fun _ h9 => h9) rfl d_Model_size_46 ?_
          refine lv_iconst (v := 0) hx hb d_Model_size_49 (by decide) ?_
          refine lv_iload_n hx hb d_Model_size_50 rfl (lv_at hl 1 rfl) ?_
          refine cs_iast (j := 0) hx hb hK hcI hP hD hS 1 rfl (rfl) (by decide) (by decide) d_Model_size_51 (fun H locs hP hD hS => ?_)
          have hP : va_P D vwCl [(g0, .inr (9, [.ref g1, .ref g2, .ref g3, .ref g4, .ref g5, .ref g6, .ref g7, .ref g8, .ref g9, .ref g10, .ref g11, .ref g12, .ref g13, .ref g14, .ref g15, .int isz, .int 0, .int ico, .int icl, .int irw, .int ibi, .int ien, .int itr, .int ibl, .int ile, .int igr, .int ibk, .int ist, .int ibr])), (g1, .inl (cI, 4, .inl (upd wd 0 wi))), (g2, .inl (cI, 4, .inl hg)), (g3, .inl (cI, 576, .inl pix))] H := hP
          have hD : va_D A [(g0, .inr (9, [.ref g1, .ref g2, .ref g3, .ref g4, .ref g5, .ref g6, .ref g7, .ref g8, .ref g9, .ref g10, .ref g11, .ref g12, .ref g13, .ref g14, .ref g15, .int isz, .int 0, .int ico, .int icl, .int irw, .int ibi, .int ien, .int itr, .int ibl, .int ile, .int igr, .int ibk, .int ist, .int ibr])), (g1, .inl (cI, 4, .inl (upd wd 0 wi))), (g2, .inl (cI, 4, .inl hg)), (g3, .inl (cI, 576, .inl pix))] := hD
          refine lv_aload_n hx hb d_Model_size_52 rfl (lv_at hl 0 rfl) ?_
          refine va_get (D := D) (ci := 9) (v := .ref g2) (C := "TileForgeModel") (T := T_Model) (N := 29) hx hb hts (cs_in in_Model) hown hK hP 0 rfl rfl 1 (by decide) (hts _ (cs_m mw_352)) (fun _ h9 => h9) rfl d_Model_size_53 ?_
          refine lv_iconst (v := 0) hx hb d_Model_size_56 (by decide) ?_
          refine lv_iload_n hx hb d_Model_size_57 rfl (lv_at hl 2 rfl) ?_
          refine cs_iast (j := 0) hx hb hK hcI hP hD hS 2 rfl (rfl) (by decide) (by decide) d_Model_size_58 (fun H locs hP hD hS => ?_)
          have hP : va_P D vwCl [(g0, .inr (9, [.ref g1, .ref g2, .ref g3, .ref g4, .ref g5, .ref g6, .ref g7, .ref g8, .ref g9, .ref g10, .ref g11, .ref g12, .ref g13, .ref g14, .ref g15, .int isz, .int 0, .int ico, .int icl, .int irw, .int ibi, .int ien, .int itr, .int ibl, .int ile, .int igr, .int ibk, .int ist, .int ibr])), (g1, .inl (cI, 4, .inl (upd wd 0 wi))), (g2, .inl (cI, 4, .inl (upd hg 0 he))), (g3, .inl (cI, 576, .inl pix))] H := hP
          have hD : va_D A [(g0, .inr (9, [.ref g1, .ref g2, .ref g3, .ref g4, .ref g5, .ref g6, .ref g7, .ref g8, .ref g9, .ref g10, .ref g11, .ref g12, .ref g13, .ref g14, .ref g15, .int isz, .int 0, .int ico, .int icl, .int irw, .int ibi, .int ien, .int itr, .int ibl, .int ile, .int igr, .int ibk, .int ist, .int ibr])), (g1, .inl (cI, 4, .inl (upd wd 0 wi))), (g2, .inl (cI, 4, .inl (upd hg 0 he))), (g3, .inl (cI, 576, .inl pix))] := hD
          refine lv_iconst (v := 0) hx hb d_Model_size_59 (by decide) ?_
          refine lv_istore_n (lv' := [(3, .int 0), (0, .ref g0), (1, .int wi), (2, .int he)]) hx hb d_Model_size_60 rfl hl (by decide) rfl (fun ls hl => ?_)
          have lp61 : ∀ (n : Nat) (k : Nat) (f : Nat → Int32), (145 ≤ k + n) → (k ≤ 144) → (f = flN pix 0 0 k) → ∀ (H : Heap) (locs : List Loc) (ls : Array Slot), va_P D vwCl [(g0, .inr (9, [.ref g1, .ref g2, .ref g3, .ref g4, .ref g5, .ref g6, .ref g7, .ref g8, .ref g9, .ref g10, .ref g11, .ref g12, .ref g13, .ref g14, .ref g15, .int isz, .int 0, .int ico, .int icl, .int irw, .int ibi, .int ien, .int itr, .int ibl, .int ile, .int igr, .int ibk, .int ist, .int ibr])), (g1, .inl (cI, 4, .inl (upd wd 0 wi))), (g2, .inl (cI, 4, .inl (upd hg 0 he))), (g3, .inl (cI, 576, .inl f))] H → va_D A [(g0, .inr (9, [.ref g1, .ref g2, .ref g3, .ref g4, .ref g5, .ref g6, .ref g7, .ref g8, .ref g9, .ref g10, .ref g11, .ref g12, .ref g13, .ref g14, .ref g15, .int isz, .int 0, .int ico, .int icl, .int irw, .int ibi, .int ien, .int itr, .int ibl, .int ile, .int igr, .int ibk, .int ist, .int ibr])), (g1, .inl (cI, 4, .inl (upd wd 0 wi))), (g2, .inl (cI, 4, .inl (upd hg 0 he))), (g3, .inl (cI, 576, .inl f))] → va_S A s.heap H locs → lv_has ls 4 [(0, .ref g0), (1, .int wi), (2, .int he), (3, .int (nI k))] → W p l e ({ frames := 0, cells := 0, slots := 0, locals := 0 } : Room) s m ([.ref g0, .int wi, .int he] : List Value).toArray below meth c H locs 0 0 (MQ below (va_Qi (q_mo_size cI g0 g1 g2 g3 g4 g5 g6 g7 g8 g9 g10 g11 g12 g13 g14 g15 isz ith ico icl irw ibi ien itr ibl ile igr ibk ist ibr wd hg pix wi he) (cs_B D vwCl tys A) A) ([.ref g0, .int wi, .int he] : List Value).toArray s 0 0 A) (F0 m 61 ls []) := by
            intro n
            induction n with
            | zero =>
              intro k f hf hk hf2
              exact absurd hf (by omega)
            | succ n ih61 =>
              intro k f hf hk hf2 H locs ls hP hD hS hl
              refine lv_iload_n hx hb d_Model_size_61 rfl (lv_at hl 3 rfl) ?_
              refine lv_sipush (v := 144) hx hb d_Model_size_62 (by decide) ?_
              refine lv_icmp_ge (tgt := 81) hx hb d_Model_size_65 (by decide) (fun c_65 => ?_) (fun c_65 => ?_)
              · have hk2 := (nI_leI (a := 144) (b := k) (by decide) (by omega)).mp c_65
                have hk3 : k = 144 := by omega
                subst hk3
                refine lv_iload_n hx hb d_Model_size_81 rfl (lv_at hl 1 rfl) ?_
                refine lv_iload_n hx hb d_Model_size_82 rfl (lv_at hl 2 rfl) ?_
                refine lv_imul hx hb d_Model_size_83 ?_
                refine lv_bipush (v := 16) hx hb d_Model_size_84 (by decide) ?_
                refine lv_idiv hx hb d_Model_size_86 (by decide) ?_
                exact W.iret (v := ((wi * he) / 16)) hx hb hr (fun t ht hW => ⟨⟨((wi * he) / 16), [(g0, .inr (9, [.ref g1, .ref g2, .ref g3, .ref g4, .ref g5, .ref g6, .ref g7, .ref g8, .ref g9, .ref g10, .ref g11, .ref g12, .ref g13, .ref g14, .ref g15, .int isz, .int 0, .int ico, .int icl, .int irw, .int ibi, .int ien, .int itr, .int ibl, .int ile, .int igr, .int ibk, .int ist, .int ibr])), (g1, .inl (cI, 4, .inl (upd wd 0 wi))), (g2, .inl (cI, 4, .inl (upd hg 0 he))), (g3, .inl (cI, 576, .inl f))], rfl, ⟨(rfl), (by rw [hf2])⟩, by rw [ht]; exact hP, va_K.moved hW.alike hK, hD⟩, hS.F ht⟩) hS.2.2 d_Model_size_87
              · have hk2 : k < 144 := Nat.not_le.mp (fun h => c_65 ((nI_leI (a := 144) (b := k) (by decide) (by omega)).mpr h))
                refine lv_aload_n hx hb d_Model_size_68 rfl (lv_at hl 0 rfl) ?_
                refine va_get (D := D) (ci := 9) (v := .ref g3) (C := "TileForgeModel") (T := T_Model) (N := 29) hx hb hts (cs_in in_Model) hown hK hP 0 rfl rfl 2 (by decide) (hts _ (cs_m mw_354)) (fun _ h9 => h9) rfl d_Model_size_69 ?_
                refine lv_iload_n hx hb d_Model_size_72 rfl (lv_at hl 3 rfl) ?_
                refine lv_iconst (v := 0) hx hb d_Model_size_73 (by decide) ?_
                refine cs_iast (j := 0 + k) hx hb hK hcI hP hD hS 3 rfl (congrArg nI (by omega)) (by omega) (by decide) d_Model_size_74 (fun H locs hP hD hS => ?_)
                have hP : va_P D vwCl [(g0, .inr (9, [.ref g1, .ref g2, .ref g3, .ref g4, .ref g5, .ref g6, .ref g7, .ref g8, .ref g9, .ref g10, .ref g11, .ref g12, .ref g13, .ref g14, .ref g15, .int isz, .int 0, .int ico, .int icl, .int irw, .int ibi, .int ien, .int itr, .int ibl, .int ile, .int igr, .int ibk, .int ist, .int ibr])), (g1, .inl (cI, 4, .inl (upd wd 0 wi))), (g2, .inl (cI, 4, .inl (upd hg 0 he))), (g3, .inl (cI, 576, .inl (upd f (0 + k) 0)))] H := hP
                have hD : va_D A [(g0, .inr (9, [.ref g1, .ref g2, .ref g3, .ref g4, .ref g5, .ref g6, .ref g7, .ref g8, .ref g9, .ref g10, .ref g11, .ref g12, .ref g13, .ref g14, .ref g15, .int isz, .int 0, .int ico, .int icl, .int irw, .int ibi, .int ien, .int itr, .int ibl, .int ile, .int igr, .int ibk, .int ist, .int ibr])), (g1, .inl (cI, 4, .inl (upd wd 0 wi))), (g2, .inl (cI, 4, .inl (upd hg 0 he))), (g3, .inl (cI, 576, .inl (upd f (0 + k) 0)))] := hD
                refine lv_iinc (v := nI (k + 1)) (lv' := [(3, .int (nI (k + 1))), (0, .ref g0), (1, .int wi), (2, .int he)]) hx hb d_Model_size_75 hl (k := 3) rfl (nI_1 _) (by decide) rfl (fun ls hl => ?_)
                refine lv_goto (tgt := 61) hx hb d_Model_size_78 (by decide) ?_
                exact ih61 (k + 1) (upd f (0 + k) 0) (by omega) (by omega) (by rw [hf2]; exact flN_s) _ _ _ (hP.sub (ws' := [(g0, .inr (9, [.ref g1, .ref g2, .ref g3, .ref g4, .ref g5, .ref g6, .ref g7, .ref g8, .ref g9, .ref g10, .ref g11, .ref g12, .ref g13, .ref g14, .ref g15, .int isz, .int 0, .int ico, .int icl, .int irw, .int ibi, .int ien, .int itr, .int ibl, .int ile, .int igr, .int ibk, .int ist, .int ibr])), (g1, .inl (cI, 4, .inl (upd wd 0 wi))), (g2, .inl (cI, 4, .inl (upd hg 0 he))), (g3, .inl (cI, 576, .inl (upd f (0 + k) 0)))]) [0, 1, 2, 3] rfl) (hD.sub (ws' := [(g0, .inr (9, [.ref g1, .ref g2, .ref g3, .ref g4, .ref g5, .ref g6, .ref g7, .ref g8, .ref g9, .ref g10, .ref g11, .ref g12, .ref g13, .ref g14, .ref g15, .int isz, .int 0, .int ico, .int icl, .int irw, .int ibi, .int ien, .int itr, .int ibl, .int ile, .int igr, .int ibk, .int ist, .int ibr])), (g1, .inl (cI, 4, .inl (upd wd 0 wi))), (g2, .inl (cI, 4, .inl (upd hg 0 he))), (g3, .inl (cI, 576, .inl (upd f (0 + k) 0)))]) [0, 1, 2, 3] (by decide) rfl) hS (lv_sub hl [1, 2, 3, 0] rfl)
          exact lp61 (145) 0 pix (by omega) (by omega) (flN_0.symm) _ _ _ (hP.sub (ws' := [(g0, .inr (9, [.ref g1, .ref g2, .ref g3, .ref g4, .ref g5, .ref g6, .ref g7, .ref g8, .ref g9, .ref g10, .ref g11, .ref g12, .ref g13, .ref g14, .ref g15, .int isz, .int 0, .int ico, .int icl, .int irw, .int ibi, .int ien, .int itr, .int ibl, .int ile, .int igr, .int ibk, .int ist, .int ibr])), (g1, .inl (cI, 4, .inl (upd wd 0 wi))), (g2, .inl (cI, 4, .inl (upd hg 0 he))), (g3, .inl (cI, 576, .inl pix))]) [0, 1, 2, 3] rfl) (hD.sub (ws' := [(g0, .inr (9, [.ref g1, .ref g2, .ref g3, .ref g4, .ref g5, .ref g6, .ref g7, .ref g8, .ref g9, .ref g10, .ref g11, .ref g12, .ref g13, .ref g14, .ref g15, .int isz, .int 0, .int ico, .int icl, .int irw, .int ibi, .int ien, .int itr, .int ibl, .int ile, .int igr, .int ibk, .int ist, .int ibr])), (g1, .inl (cI, 4, .inl (upd wd 0 wi))), (g2, .inl (cI, 4, .inl (upd hg 0 he))), (g3, .inl (cI, 576, .inl pix))]) [0, 1, 2, 3] (by decide) rfl) hS (lv_sub hl [1, 2, 3, 0] rfl)
        · exact absurd hsh (fun h => h.elim c_19 (fun h => h.elim c_25 c_31))
  · refine lv_iload_n hx hb d_Model_size_5 rfl (lv_at hl 1 rfl) ?_
    refine lv_bipush (v := 8) hx hb d_Model_size_6 (by decide) ?_
    refine lv_icmp_eq (tgt := 17) hx hb d_Model_size_8 (by decide) (fun c_8 => ?_) (fun c_8 => ?_)
    · refine lv_iload_n hx hb d_Model_size_17 rfl (lv_at hl 2 rfl) ?_
      refine lv_iconst (v := 4) hx hb d_Model_size_18 (by decide) ?_
      refine lv_icmp_eq (tgt := 40) hx hb d_Model_size_19 (by decide) (fun c_19 => ?_) (fun c_19 => ?_)
      · refine lv_aload_n hx hb d_Model_size_40 rfl (lv_at hl 0 rfl) ?_
        refine lv_iconst (v := 0) hx hb d_Model_size_41 (by decide) ?_
        refine va_put (D := D) (ci := 9) (v := .int 0) (ty := .int) (C := "TileForgeModel") (T := T_Model) (N := 29) hx hb hts (cs_in in_Model) ty_Model tok_Model nm_Model hown hK hP hD hS 0 rfl rfl 16 (by decide) (hts _ (cs_m mw_343)) (fun _ h9 => h9) rfl (by decide +kernel) rfl rfl (Nat.le_of_ble_eq_true rfl) d_Model_size_42 (fun H locs hP hD hS => ?_)
        have hP : va_P D vwCl [(g0, .inr (9, [.ref g1, .ref g2, .ref g3, .ref g4, .ref g5, .ref g6, .ref g7, .ref g8, .ref g9, .ref g10, .ref g11, .ref g12, .ref g13, .ref g14, .ref g15, .int isz, .int 0, .int ico, .int icl, .int irw, .int ibi, .int ien, .int itr, .int ibl, .int ile, .int igr, .int ibk, .int ist, .int ibr])), (g1, .inl (cI, 4, .inl wd)), (g2, .inl (cI, 4, .inl hg)), (g3, .inl (cI, 576, .inl pix))] H := hP
        have hD : va_D A [(g0, .inr (9, [.ref g1, .ref g2, .ref g3, .ref g4, .ref g5, .ref g6, .ref g7, .ref g8, .ref g9, .ref g10, .ref g11, .ref g12, .ref g13, .ref g14, .ref g15, .int isz, .int 0, .int ico, .int icl, .int irw, .int ibi, .int ien, .int itr, .int ibl, .int ile, .int igr, .int ibk, .int ist, .int ibr])), (g1, .inl (cI, 4, .inl wd)), (g2, .inl (cI, 4, .inl hg)), (g3, .inl (cI, 576, .inl pix))] := hD
        refine lv_aload_n hx hb d_Model_size_45 rfl (lv_at hl 0 rfl) ?_
        refine va_get (D := D) (ci := 9) (v := .ref g1) (C := "TileForgeModel") (T := T_Model) (N := 29) hx hb hts (cs_in in_Model) hown hK hP 0 rfl rfl 0 (by decide) (hts _ (cs_m mw_348)) (fun _ h9 => h9) rfl d_Model_size_46 ?_
        refine lv_iconst (v := 0) hx hb d_Model_size_49 (by decide) ?_
        refine lv_iload_n hx hb d_Model_size_50 rfl (lv_at hl 1 rfl) ?_
        refine cs_iast (j := 0) hx hb hK hcI hP hD hS 1 rfl (rfl) (by decide) (by decide) d_Model_size_51 (fun H locs hP hD hS => ?_)
        have hP : va_P D vwCl [(g0, .inr (9, [.ref g1, .ref g2, .ref g3, .ref g4, .ref g5, .ref g6, .ref g7, .ref g8, .ref g9, .ref g10, .ref g11, .ref g12, .ref g13, .ref g14, .ref g15, .int isz, .int 0, .int ico, .int icl, .int irw, .int ibi, .int ien, .int itr, .int ibl, .int ile, .int igr, .int ibk, .int ist, .int ibr])), (g1, .inl (cI, 4, .inl (upd wd 0 wi))), (g2, .inl (cI, 4, .inl hg)), (g3, .inl (cI, 576, .inl pix))] H := hP
        have hD : va_D A [(g0, .inr (9, [.ref g1, .ref g2, .ref g3, .ref g4, .ref g5, .ref g6, .ref g7, .ref g8, .ref g9, .ref g10, .ref g11, .ref g12, .ref g13, .ref g14, .ref g15, .int isz, .int 0, .int ico, .int icl, .int irw, .int ibi, .int ien, .int itr, .int ibl, .int ile, .int igr, .int ibk, .int ist, .int ibr])), (g1, .inl (cI, 4, .inl (upd wd 0 wi))), (g2, .inl (cI, 4, .inl hg)), (g3, .inl (cI, 576, .inl pix))] := hD
        refine lv_aload_n hx hb d_Model_size_52 rfl (lv_at hl 0 rfl) ?_
        refine va_get (D := D) (ci := 9) (v := .ref g2) (C := "TileForgeModel") (T := T_Model) (N := 29) hx hb hts (cs_in in_Model) hown hK hP 0 rfl rfl 1 (by decide) (hts _ (cs_m mw_352)) (fun _ h9 => h9) rfl d_Model_size_53 ?_
        refine lv_iconst (v := 0) hx hb d_Model_size_56 (by decide) ?_
        refine lv_iload_n hx hb d_Model_size_57 rfl (lv_at hl 2 rfl) ?_
        refine cs_iast (j := 0) hx hb hK hcI hP hD hS 2 rfl (rfl) (by decide) (by decide) d_Model_size_58 (fun H locs hP hD hS => ?_)
        have hP : va_P D vwCl [(g0, .inr (9, [.ref g1, .ref g2, .ref g3, .ref g4, .ref g5, .ref g6, .ref g7, .ref g8, .ref g9, .ref g10, .ref g11, .ref g12, .ref g13, .ref g14, .ref g15, .int isz, .int 0, .int ico, .int icl, .int irw, .int ibi, .int ien, .int itr, .int ibl, .int ile, .int igr, .int ibk, .int ist, .int ibr])), (g1, .inl (cI, 4, .inl (upd wd 0 wi))), (g2, .inl (cI, 4, .inl (upd hg 0 he))), (g3, .inl (cI, 576, .inl pix))] H := hP
        have hD : va_D A [(g0, .inr (9, [.ref g1, .ref g2, .ref g3, .ref g4, .ref g5, .ref g6, .ref g7, .ref g8, .ref g9, .ref g10, .ref g11, .ref g12, .ref g13, .ref g14, .ref g15, .int isz, .int 0, .int ico, .int icl, .int irw, .int ibi, .int ien, .int itr, .int ibl, .int ile, .int igr, .int ibk, .int ist, .int ibr])), (g1, .inl (cI, 4, .inl (upd wd 0 wi))), (g2, .inl (cI, 4, .inl (upd hg 0 he))), (g3, .inl (cI, 576, .inl pix))] := hD
        refine lv_iconst (v := 0) hx hb d_Model_size_59 (by decide) ?_
        refine lv_istore_n (lv' := [(3, .int 0), (0, .ref g0), (1, .int wi), (2, .int he)]) hx hb d_Model_size_60 rfl hl (by decide) rfl (fun ls hl => ?_)
        have lp61 : ∀ (n : Nat) (k : Nat) (f : Nat → Int32), (145 ≤ k + n) → (k ≤ 144) → (f = flN pix 0 0 k) → ∀ (H : Heap) (locs : List Loc) (ls : Array Slot), va_P D vwCl [(g0, .inr (9, [.ref g1, .ref g2, .ref g3, .ref g4, .ref g5, .ref g6, .ref g7, .ref g8, .ref g9, .ref g10, .ref g11, .ref g12, .ref g13, .ref g14, .ref g15, .int isz, .int 0, .int ico, .int icl, .int irw, .int ibi, .int ien, .int itr, .int ibl, .int ile, .int igr, .int ibk, .int ist, .int ibr])), (g1, .inl (cI, 4, .inl (upd wd 0 wi))), (g2, .inl (cI, 4, .inl (upd hg 0 he))), (g3, .inl (cI, 576, .inl f))] H → va_D A [(g0, .inr (9, [.ref g1, .ref g2, .ref g3, .ref g4, .ref g5, .ref g6, .ref g7, .ref g8, .ref g9, .ref g10, .ref g11, .ref g12, .ref g13, .ref g14, .ref g15, .int isz, .int 0, .int ico, .int icl, .int irw, .int ibi, .int ien, .int itr, .int ibl, .int ile, .int igr, .int ibk, .int ist, .int ibr])), (g1, .inl (cI, 4, .inl (upd wd 0 wi))), (g2, .inl (cI, 4, .inl (upd hg 0 he))), (g3, .inl (cI, 576, .inl f))] → va_S A s.heap H locs → lv_has ls 4 [(0, .ref g0), (1, .int wi), (2, .int he), (3, .int (nI k))] → W p l e ({ frames := 0, cells := 0, slots := 0, locals := 0 } : Room) s m ([.ref g0, .int wi, .int he] : List Value).toArray below meth c H locs 0 0 (MQ below (va_Qi (q_mo_size cI g0 g1 g2 g3 g4 g5 g6 g7 g8 g9 g10 g11 g12 g13 g14 g15 isz ith ico icl irw ibi ien itr ibl ile igr ibk ist ibr wd hg pix wi he) (cs_B D vwCl tys A) A) ([.ref g0, .int wi, .int he] : List Value).toArray s 0 0 A) (F0 m 61 ls []) := by
          intro n
          induction n with
          | zero =>
            intro k f hf hk hf2
            exact absurd hf (by omega)
          | succ n ih61 =>
            intro k f hf hk hf2 H locs ls hP hD hS hl
            refine lv_iload_n hx hb d_Model_size_61 rfl (lv_at hl 3 rfl) ?_
            refine lv_sipush (v := 144) hx hb d_Model_size_62 (by decide) ?_
            refine lv_icmp_ge (tgt := 81) hx hb d_Model_size_65 (by decide) (fun c_65 => ?_) (fun c_65 => ?_)
            · have hk2 := (nI_leI (a := 144) (b := k) (by decide) (by omega)).mp c_65
              have hk3 : k = 144 := by omega
              subst hk3
              refine lv_iload_n hx hb d_Model_size_81 rfl (lv_at hl 1 rfl) ?_
              refine lv_iload_n hx hb d_Model_size_82 rfl (lv_at hl 2 rfl) ?_
              refine lv_imul hx hb d_Model_size_83 ?_
              refine lv_bipush (v := 16) hx hb d_Model_size_84 (by decide) ?_
              refine lv_idiv hx hb d_Model_size_86 (by decide) ?_
              exact W.iret (v := ((wi * he) / 16)) hx hb hr (fun t ht hW => ⟨⟨((wi * he) / 16), [(g0, .inr (9, [.ref g1, .ref g2, .ref g3, .ref g4, .ref g5, .ref g6, .ref g7, .ref g8, .ref g9, .ref g10, .ref g11, .ref g12, .ref g13, .ref g14, .ref g15, .int isz, .int 0, .int ico, .int icl, .int irw, .int ibi, .int ien, .int itr, .int ibl, .int ile, .int igr, .int ibk, .int ist, .int ibr])), (g1, .inl (cI, 4, .inl (upd wd 0 wi))), (g2, .inl (cI, 4, .inl (upd hg 0 he))), (g3, .inl (cI, 576, .inl f))], rfl, ⟨(rfl), (by rw [hf2])⟩, by rw [ht]; exact hP, va_K.moved hW.alike hK, hD⟩, hS.F ht⟩) hS.2.2 d_Model_size_87
            · have hk2 : k < 144 := Nat.not_le.mp (fun h => c_65 ((nI_leI (a := 144) (b := k) (by decide) (by omega)).mpr h))
              refine lv_aload_n hx hb d_Model_size_68 rfl (lv_at hl 0 rfl) ?_
              refine va_get (D := D) (ci := 9) (v := .ref g3) (C := "TileForgeModel") (T := T_Model) (N := 29) hx hb hts (cs_in in_Model) hown hK hP 0 rfl rfl 2 (by decide) (hts _ (cs_m mw_354)) (fun _ h9 => h9) rfl d_Model_size_69 ?_
              refine lv_iload_n hx hb d_Model_size_72 rfl (lv_at hl 3 rfl) ?_
              refine lv_iconst (v := 0) hx hb d_Model_size_73 (by decide) ?_
              refine cs_iast (j := 0 + k) hx hb hK hcI hP hD hS 3 rfl (congrArg nI (by omega)) (by omega) (by decide) d_Model_size_74 (fun H locs hP hD hS => ?_)
              have hP : va_P D vwCl [(g0, .inr (9, [.ref g1, .ref g2, .ref g3, .ref g4, .ref g5, .ref g6, .ref g7, .ref g8, .ref g9, .ref g10, .ref g11, .ref g12, .ref g13, .ref g14, .ref g15, .int isz, .int 0, .int ico, .int icl, .int irw, .int ibi, .int ien, .int itr, .int ibl, .int ile, .int igr, .int ibk, .int ist, .int ibr])), (g1, .inl (cI, 4, .inl (upd wd 0 wi))), (g2, .inl (cI, 4, .inl (upd hg 0 he))), (g3, .inl (cI, 576, .inl (upd f (0 + k) 0)))] H := hP
              have hD : va_D A [(g0, .inr (9, [.ref g1, .ref g2, .ref g3, .ref g4, .ref g5, .ref g6, .ref g7, .ref g8, .ref g9, .ref g10, .ref g11, .ref g12, .ref g13, .ref g14, .ref g15, .int isz, .int 0, .int ico, .int icl, .int irw, .int ibi, .int ien, .int itr, .int ibl, .int ile, .int igr, .int ibk, .int ist, .int ibr])), (g1, .inl (cI, 4, .inl (upd wd 0 wi))), (g2, .inl (cI, 4, .inl (upd hg 0 he))), (g3, .inl (cI, 576, .inl (upd f (0 + k) 0)))] := hD
              refine lv_iinc (v := nI (k + 1)) (lv' := [(3, .int (nI (k + 1))), (0, .ref g0), (1, .int wi), (2, .int he)]) hx hb d_Model_size_75 hl (k := 3) rfl (nI_1 _) (by decide) rfl (fun ls hl => ?_)
              refine lv_goto (tgt := 61) hx hb d_Model_size_78 (by decide) ?_
              exact ih61 (k + 1) (upd f (0 + k) 0) (by omega) (by omega) (by rw [hf2]; exact flN_s) _ _ _ (hP.sub (ws' := [(g0, .inr (9, [.ref g1, .ref g2, .ref g3, .ref g4, .ref g5, .ref g6, .ref g7, .ref g8, .ref g9, .ref g10, .ref g11, .ref g12, .ref g13, .ref g14, .ref g15, .int isz, .int 0, .int ico, .int icl, .int irw, .int ibi, .int ien, .int itr, .int ibl, .int ile, .int igr, .int ibk, .int ist, .int ibr])), (g1, .inl (cI, 4, .inl (upd wd 0 wi))), (g2, .inl (cI, 4, .inl (upd hg 0 he))), (g3, .inl (cI, 576, .inl (upd f (0 + k) 0)))]) [0, 1, 2, 3] rfl) (hD.sub (ws' := [(g0, .inr (9, [.ref g1, .ref g2, .ref g3, .ref g4, .ref g5, .ref g6, .ref g7, .ref g8, .ref g9, .ref g10, .ref g11, .ref g12, .ref g13, .ref g14, .ref g15, .int isz, .int 0, .int ico, .int icl, .int irw, .int ibi, .int ien, .int itr, .int ibl, .int ile, .int igr, .int ibk, .int ist, .int ibr])), (g1, .inl (cI, 4, .inl (upd wd 0 wi))), (g2, .inl (cI, 4, .inl (upd hg 0 he))), (g3, .inl (cI, 576, .inl (upd f (0 + k) 0)))]) [0, 1, 2, 3] (by decide) rfl) hS (lv_sub hl [1, 2, 3, 0] rfl)
        exact lp61 (145) 0 pix (by omega) (by omega) (flN_0.symm) _ _ _ (hP.sub (ws' := [(g0, .inr (9, [.ref g1, .ref g2, .ref g3, .ref g4, .ref g5, .ref g6, .ref g7, .ref g8, .ref g9, .ref g10, .ref g11, .ref g12, .ref g13, .ref g14, .ref g15, .int isz, .int 0, .int ico, .int icl, .int irw, .int ibi, .int ien, .int itr, .int ibl, .int ile, .int igr, .int ibk, .int ist, .int ibr])), (g1, .inl (cI, 4, .inl (upd wd 0 wi))), (g2, .inl (cI, 4, .inl (upd hg 0 he))), (g3, .inl (cI, 576, .inl pix))]) [0, 1, 2, 3] rfl) (hD.sub (ws' := [(g0, .inr (9, [.ref g1, .ref g2, .ref g3, .ref g4, .ref g5, .ref g6, .ref g7, .ref g8, .ref g9, .ref g10, .ref g11, .ref g12, .ref g13, .ref g14, .ref g15, .int isz, .int 0, .int ico, .int icl, .int irw, .int ibi, .int ien, .int itr, .int ibl, .int ile, .int igr, .int ibk, .int ist, .int ibr])), (g1, .inl (cI, 4, .inl (upd wd 0 wi))), (g2, .inl (cI, 4, .inl (upd hg 0 he))), (g3, .inl (cI, 576, .inl pix))]) [0, 1, 2, 3] (by decide) rfl) hS (lv_sub hl [1, 2, 3, 0] rfl)
      · refine lv_iload_n hx hb d_Model_size_22 rfl (lv_at hl 2 rfl) ?_
        refine lv_bipush (v := 8) hx hb d_Model_size_23 (by decide) ?_
        refine lv_icmp_eq (tgt := 40) hx hb d_Model_size_25 (by decide) (fun c_25 => ?_) (fun c_25 => ?_)
        · refine lv_aload_n hx hb d_Model_size_40 rfl (lv_at hl 0 rfl) ?_
          refine lv_iconst (v := 0) hx hb d_Model_size_41 (by decide) ?_
          refine va_put (D := D) (ci := 9) (v := .int 0) (ty := .int) (C := "TileForgeModel") (T := T_Model) (N := 29) hx hb hts (cs_in in_Model) ty_Model tok_Model nm_Model hown hK hP hD hS 0 rfl rfl 16 (by decide) (hts _ (cs_m mw_343)) (fun _ h9 => h9) rfl (by decide +kernel) rfl rfl (Nat.le_of_ble_eq_true rfl) d_Model_size_42 (fun H locs hP hD hS => ?_)
          have hP : va_P D vwCl [(g0, .inr (9, [.ref g1, .ref g2, .ref g3, .ref g4, .ref g5, .ref g6, .ref g7, .ref g8, .ref g9, .ref g10, .ref g11, .ref g12, .ref g13, .ref g14, .ref g15, .int isz, .int 0, .int ico, .int icl, .int irw, .int ibi, .int ien, .int itr, .int ibl, .int ile, .int igr, .int ibk, .int ist, .int ibr])), (g1, .inl (cI, 4, .inl wd)), (g2, .inl (cI, 4, .inl hg)), (g3, .inl (cI, 576, .inl pix))] H := hP
          have hD : va_D A [(g0, .inr (9, [.ref g1, .ref g2, .ref g3, .ref g4, .ref g5, .ref g6, .ref g7, .ref g8, .ref g9, .ref g10, .ref g11, .ref g12, .ref g13, .ref g14, .ref g15, .int isz, .int 0, .int ico, .int icl, .int irw, .int ibi, .int ien, .int itr, .int ibl, .int ile, .int igr, .int ibk, .int ist, .int ibr])), (g1, .inl (cI, 4, .inl wd)), (g2, .inl (cI, 4, .inl hg)), (g3, .inl (cI, 576, .inl pix))] := hD
          refine lv_aload_n hx hb d_Model_size_45 rfl (lv_at hl 0 rfl) ?_
          refine va_get (D := D) (ci := 9) (v := .ref g1) (C := "TileForgeModel") (T := T_Model) (N := 29) hx hb hts (cs_in in_Model) hown hK hP 0 rfl rfl 0 (by decide) (hts _ (cs_m mw_348)) (fun _ h9 => h9) rfl d_Model_size_46 ?_
          refine lv_iconst (v := 0) hx hb d_Model_size_49 (by decide) ?_
          refine lv_iload_n hx hb d_Model_size_50 rfl (lv_at hl 1 rfl) ?_
          refine cs_iast (j := 0) hx hb hK hcI hP hD hS 1 rfl (rfl) (by decide) (by decide) d_Model_size_51 (fun H locs hP hD hS => ?_)
          have hP : va_P D vwCl [(g0, .inr (9, [.ref g1, .ref g2, .ref g3, .ref g4, .ref g5, .ref g6, .ref g7, .ref g8, .ref g9, .ref g10, .ref g11, .ref g12, .ref g13, .ref g14, .ref g15, .int isz, .int 0, .int ico, .int icl, .int irw, .int ibi, .int ien, .int itr, .int ibl, .int ile, .int igr, .int ibk, .int ist, .int ibr])), (g1, .inl (cI, 4, .inl (upd wd 0 wi))), (g2, .inl (cI, 4, .inl hg)), (g3, .inl (cI, 576, .inl pix))] H := hP
          have hD : va_D A [(g0, .inr (9, [.ref g1, .ref g2, .ref g3, .ref g4, .ref g5, .ref g6, .ref g7, .ref g8, .ref g9, .ref g10, .ref g11, .ref g12, .ref g13, .ref g14, .ref g15, .int isz, .int 0, .int ico, .int icl, .int irw, .int ibi, .int ien, .int itr, .int ibl, .int ile, .int igr, .int ibk, .int ist, .int ibr])), (g1, .inl (cI, 4, .inl (upd wd 0 wi))), (g2, .inl (cI, 4, .inl hg)), (g3, .inl (cI, 576, .inl pix))] := hD
          refine lv_aload_n hx hb d_Model_size_52 rfl (lv_at hl 0 rfl) ?_
          refine va_get (D := D) (ci := 9) (v := .ref g2) (C := "TileForgeModel") (T := T_Model) (N := 29) hx hb hts (cs_in in_Model) hown hK hP 0 rfl rfl 1 (by decide) (hts _ (cs_m mw_352)) (fun _ h9 => h9) rfl d_Model_size_53 ?_
          refine lv_iconst (v := 0) hx hb d_Model_size_56 (by decide) ?_
          refine lv_iload_n hx hb d_Model_size_57 rfl (lv_at hl 2 rfl) ?_
          refine cs_iast (j := 0) hx hb hK hcI hP hD hS 2 rfl (rfl) (by decide) (by decide) d_Model_size_58 (fun H locs hP hD hS => ?_)
          have hP : va_P D vwCl [(g0, .inr (9, [.ref g1, .ref g2, .ref g3, .ref g4, .ref g5, .ref g6, .ref g7, .ref g8, .ref g9, .ref g10, .ref g11, .ref g12, .ref g13, .ref g14, .ref g15, .int isz, .int 0, .int ico, .int icl, .int irw, .int ibi, .int ien, .int itr, .int ibl, .int ile, .int igr, .int ibk, .int ist, .int ibr])), (g1, .inl (cI, 4, .inl (upd wd 0 wi))), (g2, .inl (cI, 4, .inl (upd hg 0 he))), (g3, .inl (cI, 576, .inl pix))] H := hP
          have hD : va_D A [(g0, .inr (9, [.ref g1, .ref g2, .ref g3, .ref g4, .ref g5, .ref g6, .ref g7, .ref g8, .ref g9, .ref g10, .ref g11, .ref g12, .ref g13, .ref g14, .ref g15, .int isz, .int 0, .int ico, .int icl, .int irw, .int ibi, .int ien, .int itr, .int ibl, .int ile, .int igr, .int ibk, .int ist, .int ibr])), (g1, .inl (cI, 4, .inl (upd wd 0 wi))), (g2, .inl (cI, 4, .inl (upd hg 0 he))), (g3, .inl (cI, 576, .inl pix))] := hD
          refine lv_iconst (v := 0) hx hb d_Model_size_59 (by decide) ?_
          refine lv_istore_n (lv' := [(3, .int 0), (0, .ref g0), (1, .int wi), (2, .int he)]) hx hb d_Model_size_60 rfl hl (by decide) rfl (fun ls hl => ?_)
          have lp61 : ∀ (n : Nat) (k : Nat) (f : Nat → Int32), (145 ≤ k + n) → (k ≤ 144) → (f = flN pix 0 0 k) → ∀ (H : Heap) (locs : List Loc) (ls : Array Slot), va_P D vwCl [(g0, .inr (9, [.ref g1, .ref g2, .ref g3, .ref g4, .ref g5, .ref g6, .ref g7, .ref g8, .ref g9, .ref g10, .ref g11, .ref g12, .ref g13, .ref g14, .ref g15, .int isz, .int 0, .int ico, .int icl, .int irw, .int ibi, .int ien, .int itr, .int ibl, .int ile, .int igr, .int ibk, .int ist, .int ibr])), (g1, .inl (cI, 4, .inl (upd wd 0 wi))), (g2, .inl (cI, 4, .inl (upd hg 0 he))), (g3, .inl (cI, 576, .inl f))] H → va_D A [(g0, .inr (9, [.ref g1, .ref g2, .ref g3, .ref g4, .ref g5, .ref g6, .ref g7, .ref g8, .ref g9, .ref g10, .ref g11, .ref g12, .ref g13, .ref g14, .ref g15, .int isz, .int 0, .int ico, .int icl, .int irw, .int ibi, .int ien, .int itr, .int ibl, .int ile, .int igr, .int ibk, .int ist, .int ibr])), (g1, .inl (cI, 4, .inl (upd wd 0 wi))), (g2, .inl (cI, 4, .inl (upd hg 0 he))), (g3, .inl (cI, 576, .inl f))] → va_S A s.heap H locs → lv_has ls 4 [(0, .ref g0), (1, .int wi), (2, .int he), (3, .int (nI k))] → W p l e ({ frames := 0, cells := 0, slots := 0, locals := 0 } : Room) s m ([.ref g0, .int wi, .int he] : List Value).toArray below meth c H locs 0 0 (MQ below (va_Qi (q_mo_size cI g0 g1 g2 g3 g4 g5 g6 g7 g8 g9 g10 g11 g12 g13 g14 g15 isz ith ico icl irw ibi ien itr ibl ile igr ibk ist ibr wd hg pix wi he) (cs_B D vwCl tys A) A) ([.ref g0, .int wi, .int he] : List Value).toArray s 0 0 A) (F0 m 61 ls []) := by
            intro n
            induction n with
            | zero =>
              intro k f hf hk hf2
              exact absurd hf (by omega)
            | succ n ih61 =>
              intro k f hf hk hf2 H locs ls hP hD hS hl
              refine lv_iload_n hx hb d_Model_size_61 rfl (lv_at hl 3 rfl) ?_
              refine lv_sipush (v := 144) hx hb d_Model_size_62 (by decide) ?_
              refine lv_icmp_ge (tgt := 81) hx hb d_Model_size_65 (by decide) (fun c_65 => ?_) (fun c_65 => ?_)
              · have hk2 := (nI_leI (a := 144) (b := k) (by decide) (by omega)).mp c_65
                have hk3 : k = 144 := by omega
                subst hk3
                refine lv_iload_n hx hb d_Model_size_81 rfl (lv_at hl 1 rfl) ?_
                refine lv_iload_n hx hb d_Model_size_82 rfl (lv_at hl 2 rfl) ?_
                refine lv_imul hx hb d_Model_size_83 ?_
                refine lv_bipush (v := 16) hx hb d_Model_size_84 (by decide) ?_
                refine lv_idiv hx hb d_Model_size_86 (by decide) ?_
                exact W.iret (v := ((wi * he) / 16)) hx hb hr (fun t ht hW => ⟨⟨((wi * he) / 16), [(g0, .inr (9, [.ref g1, .ref g2, .ref g3, .ref g4, .ref g5, .ref g6, .ref g7, .ref g8, .ref g9, .ref g10, .ref g11, .ref g12, .ref g13, .ref g14, .ref g15, .int isz, .int 0, .int ico, .int icl, .int irw, .int ibi, .int ien, .int itr, .int ibl, .int ile, .int igr, .int ibk, .int ist, .int ibr])), (g1, .inl (cI, 4, .inl (upd wd 0 wi))), (g2, .inl (cI, 4, .inl (upd hg 0 he))), (g3, .inl (cI, 576, .inl f))], rfl, ⟨(rfl), (by rw [hf2])⟩, by rw [ht]; exact hP, va_K.moved hW.alike hK, hD⟩, hS.F ht⟩) hS.2.2 d_Model_size_87
              · have hk2 : k < 144 := Nat.not_le.mp (fun h => c_65 ((nI_leI (a := 144) (b := k) (by decide) (by omega)).mpr h))
                refine lv_aload_n hx hb d_Model_size_68 rfl (lv_at hl 0 rfl) ?_
                refine va_get (D := D) (ci := 9) (v := .ref g3) (C := "TileForgeModel") (T := T_Model) (N := 29) hx hb hts (cs_in in_Model) hown hK hP 0 rfl rfl 2 (by decide) (hts _ (cs_m mw_354)) (fun _ h9 => h9) rfl d_Model_size_69 ?_
                refine lv_iload_n hx hb d_Model_size_72 rfl (lv_at hl 3 rfl) ?_
                refine lv_iconst (v := 0) hx hb d_Model_size_73 (by decide) ?_
                refine cs_iast (j := 0 + k) hx hb hK hcI hP hD hS 3 rfl (congrArg nI (by omega)) (by omega) (by decide) d_Model_size_74 (fun H locs hP hD hS => ?_)
                have hP : va_P D vwCl [(g0, .inr (9, [.ref g1, .ref g2, .ref g3, .ref g4, .ref g5, .ref g6, .ref g7, .ref g8, .ref g9, .ref g10, .ref g11, .ref g12, .ref g13, .ref g14, .ref g15, .int isz, .int 0, .int ico, .int icl, .int irw, .int ibi, .int ien, .int itr, .int ibl, .int ile, .int igr, .int ibk, .int ist, .int ibr])), (g1, .inl (cI, 4, .inl (upd wd 0 wi))), (g2, .inl (cI, 4, .inl (upd hg 0 he))), (g3, .inl (cI, 576, .inl (upd f (0 + k) 0)))] H := hP
                have hD : va_D A [(g0, .inr (9, [.ref g1, .ref g2, .ref g3, .ref g4, .ref g5, .ref g6, .ref g7, .ref g8, .ref g9, .ref g10, .ref g11, .ref g12, .ref g13, .ref g14, .ref g15, .int isz, .int 0, .int ico, .int icl, .int irw, .int ibi, .int ien, .int itr, .int ibl, .int ile, .int igr, .int ibk, .int ist, .int ibr])), (g1, .inl (cI, 4, .inl (upd wd 0 wi))), (g2, .inl (cI, 4, .inl (upd hg 0 he))), (g3, .inl (cI, 576, .inl (upd f (0 + k) 0)))] := hD
                refine lv_iinc (v := nI (k + 1)) (lv' := [(3, .int (nI (k + 1))), (0, .ref g0), (1, .int wi), (2, .int he)]) hx hb d_Model_size_75 hl (k := 3) rfl (nI_1 _) (by decide) rfl (fun ls hl => ?_)
                refine lv_goto (tgt := 61) hx hb d_Model_size_78 (by decide) ?_
                exact ih61 (k + 1) (upd f (0 + k) 0) (by omega) (by omega) (by rw [hf2]; exact flN_s) _ _ _ (hP.sub (ws' := [(g0, .inr (9, [.ref g1, .ref g2, .ref g3, .ref g4, .ref g5, .ref g6, .ref g7, .ref g8, .ref g9, .ref g10, .ref g11, .ref g12, .ref g13, .ref g14, .ref g15, .int isz, .int 0, .int ico, .int icl, .int irw, .int ibi, .int ien, .int itr, .int ibl, .int ile, .int igr, .int ibk, .int ist, .int ibr])), (g1, .inl (cI, 4, .inl (upd wd 0 wi))), (g2, .inl (cI, 4, .inl (upd hg 0 he))), (g3, .inl (cI, 576, .inl (upd f (0 + k) 0)))]) [0, 1, 2, 3] rfl) (hD.sub (ws' := [(g0, .inr (9, [.ref g1, .ref g2, .ref g3, .ref g4, .ref g5, .ref g6, .ref g7, .ref g8, .ref g9, .ref g10, .ref g11, .ref g12, .ref g13, .ref g14, .ref g15, .int isz, .int 0, .int ico, .int icl, .int irw, .int ibi, .int ien, .int itr, .int ibl, .int ile, .int igr, .int ibk, .int ist, .int ibr])), (g1, .inl (cI, 4, .inl (upd wd 0 wi))), (g2, .inl (cI, 4, .inl (upd hg 0 he))), (g3, .inl (cI, 576, .inl (upd f (0 + k) 0)))]) [0, 1, 2, 3] (by decide) rfl) hS (lv_sub hl [1, 2, 3, 0] rfl)
          exact lp61 (145) 0 pix (by omega) (by omega) (flN_0.symm) _ _ _ (hP.sub (ws' := [(g0, .inr (9, [.ref g1, .ref g2, .ref g3, .ref g4, .ref g5, .ref g6, .ref g7, .ref g8, .ref g9, .ref g10, .ref g11, .ref g12, .ref g13, .ref g14, .ref g15, .int isz, .int 0, .int ico, .int icl, .int irw, .int ibi, .int ien, .int itr, .int ibl, .int ile, .int igr, .int ibk, .int ist, .int ibr])), (g1, .inl (cI, 4, .inl (upd wd 0 wi))), (g2, .inl (cI, 4, .inl (upd hg 0 he))), (g3, .inl (cI, 576, .inl pix))]) [0, 1, 2, 3] rfl) (hD.sub (ws' := [(g0, .inr (9, [.ref g1, .ref g2, .ref g3, .ref g4, .ref g5, .ref g6, .ref g7, .ref g8, .ref g9, .ref g10, .ref g11, .ref g12, .ref g13, .ref g14, .ref g15, .int isz, .int 0, .int ico, .int icl, .int irw, .int ibi, .int ien, .int itr, .int ibl, .int ile, .int igr, .int ibk, .int ist, .int ibr])), (g1, .inl (cI, 4, .inl (upd wd 0 wi))), (g2, .inl (cI, 4, .inl (upd hg 0 he))), (g3, .inl (cI, 576, .inl pix))]) [0, 1, 2, 3] (by decide) rfl) hS (lv_sub hl [1, 2, 3, 0] rfl)
        · refine lv_iload_n hx hb d_Model_size_28 rfl (lv_at hl 2 rfl) ?_
          refine lv_bipush (v := 12) hx hb d_Model_size_29 (by decide) ?_
          refine lv_icmp_eq (tgt := 40) hx hb d_Model_size_31 (by decide) (fun c_31 => ?_) (fun c_31 => ?_)
          · refine lv_aload_n hx hb d_Model_size_40 rfl (lv_at hl 0 rfl) ?_
            refine lv_iconst (v := 0) hx hb d_Model_size_41 (by decide) ?_
            refine va_put (D := D) (ci := 9) (v := .int 0) (ty := .int) (C := "TileForgeModel") (T := T_Model) (N := 29) hx hb hts (cs_in in_Model) ty_Model tok_Model nm_Model hown hK hP hD hS 0 rfl rfl 16 (by decide) (hts _ (cs_m mw_343)) (fun _ h9 => h9) rfl (by decide +kernel) rfl rfl (Nat.le_of_ble_eq_true rfl) d_Model_size_42 (fun H locs hP hD hS => ?_)
            have hP : va_P D vwCl [(g0, .inr (9, [.ref g1, .ref g2, .ref g3, .ref g4, .ref g5, .ref g6, .ref g7, .ref g8, .ref g9, .ref g10, .ref g11, .ref g12, .ref g13, .ref g14, .ref g15, .int isz, .int 0, .int ico, .int icl, .int irw, .int ibi, .int ien, .int itr, .int ibl, .int ile, .int igr, .int ibk, .int ist, .int ibr])), (g1, .inl (cI, 4, .inl wd)), (g2, .inl (cI, 4, .inl hg)), (g3, .inl (cI, 576, .inl pix))] H := hP
            have hD : va_D A [(g0, .inr (9, [.ref g1, .ref g2, .ref g3, .ref g4, .ref g5, .ref g6, .ref g7, .ref g8, .ref g9, .ref g10, .ref g11, .ref g12, .ref g13, .ref g14, .ref g15, .int isz, .int 0, .int ico, .int icl, .int irw, .int ibi, .int ien, .int itr, .int ibl, .int ile, .int igr, .int ibk, .int ist, .int ibr])), (g1, .inl (cI, 4, .inl wd)), (g2, .inl (cI, 4, .inl hg)), (g3, .inl (cI, 576, .inl pix))] := hD
            refine lv_aload_n hx hb d_Model_size_45 rfl (lv_at hl 0 rfl) ?_
            refine va_get (D := D) (ci := 9) (v := .ref g1) (C := "TileForgeModel") (T := T_Model) (N := 29) hx hb hts (cs_in in_Model) hown hK hP 0 rfl rfl 0 (by decide) (hts _ (cs_m mw_348)) (fun _ h9 => h9) rfl d_Model_size_46 ?_
            refine lv_iconst (v := 0) hx hb d_Model_size_49 (by decide) ?_
            refine lv_iload_n hx hb d_Model_size_50 rfl (lv_at hl 1 rfl) ?_
            refine cs_iast (j := 0) hx hb hK hcI hP hD hS 1 rfl (rfl) (by decide) (by decide) d_Model_size_51 (fun H locs hP hD hS => ?_)
            have hP : va_P D vwCl [(g0, .inr (9, [.ref g1, .ref g2, .ref g3, .ref g4, .ref g5, .ref g6, .ref g7, .ref g8, .ref g9, .ref g10, .ref g11, .ref g12, .ref g13, .ref g14, .ref g15, .int isz, .int 0, .int ico, .int icl, .int irw, .int ibi, .int ien, .int itr, .int ibl, .int ile, .int igr, .int ibk, .int ist, .int ibr])), (g1, .inl (cI, 4, .inl (upd wd 0 wi))), (g2, .inl (cI, 4, .inl hg)), (g3, .inl (cI, 576, .inl pix))] H := hP
            have hD : va_D A [(g0, .inr (9, [.ref g1, .ref g2, .ref g3, .ref g4, .ref g5, .ref g6, .ref g7, .ref g8, .ref g9, .ref g10, .ref g11, .ref g12, .ref g13, .ref g14, .ref g15, .int isz, .int 0, .int ico, .int icl, .int irw, .int ibi, .int ien, .int itr, .int ibl, .int ile, .int igr, .int ibk, .int ist, .int ibr])), (g1, .inl (cI, 4, .inl (upd wd 0 wi))), (g2, .inl (cI, 4, .inl hg)), (g3, .inl (cI, 576, .inl pix))] := hD
            refine lv_aload_n hx hb d_Model_size_52 rfl (lv_at hl 0 rfl) ?_
            refine va_get (D := D) (ci := 9) (v := .ref g2) (C := "TileForgeModel") (T := T_Model) (N := 29) hx hb hts (cs_in in_Model) hown hK hP 0 rfl rfl 1 (by decide) (hts _ (cs_m mw_352)) (fun _ h9 => h9) rfl d_Model_size_53 ?_
            refine lv_iconst (v := 0) hx hb d_Model_size_56 (by decide) ?_
            refine lv_iload_n hx hb d_Model_size_57 rfl (lv_at hl 2 rfl) ?_
            refine cs_iast (j := 0) hx hb hK hcI hP hD hS 2 rfl (rfl) (by decide) (by decide) d_Model_size_58 (fun H locs hP hD hS => ?_)
            have hP : va_P D vwCl [(g0, .inr (9, [.ref g1, .ref g2, .ref g3, .ref g4, .ref g5, .ref g6, .ref g7, .ref g8, .ref g9, .ref g10, .ref g11, .ref g12, .ref g13, .ref g14, .ref g15, .int isz, .int 0, .int ico, .int icl, .int irw, .int ibi, .int ien, .int itr, .int ibl, .int ile, .int igr, .int ibk, .int ist, .int ibr])), (g1, .inl (cI, 4, .inl (upd wd 0 wi))), (g2, .inl (cI, 4, .inl (upd hg 0 he))), (g3, .inl (cI, 576, .inl pix))] H := hP
            have hD : va_D A [(g0, .inr (9, [.ref g1, .ref g2, .ref g3, .ref g4, .ref g5, .ref g6, .ref g7, .ref g8, .ref g9, .ref g10, .ref g11, .ref g12, .ref g13, .ref g14, .ref g15, .int isz, .int 0, .int ico, .int icl, .int irw, .int ibi, .int ien, .int itr, .int ibl, .int ile, .int igr, .int ibk, .int ist, .int ibr])), (g1, .inl (cI, 4, .inl (upd wd 0 wi))), (g2, .inl (cI, 4, .inl (upd hg 0 he))), (g3, .inl (cI, 576, .inl pix))] := hD
            refine lv_iconst (v := 0) hx hb d_Model_size_59 (by decide) ?_
            refine lv_istore_n (lv' := [(3, .int 0), (0, .ref g0), (1, .int wi), (2, .int he)]) hx hb d_Model_size_60 rfl hl (by decide) rfl (fun ls hl => ?_)
            have lp61 : ∀ (n : Nat) (k : Nat) (f : Nat → Int32), (145 ≤ k + n) → (k ≤ 144) → (f = flN pix 0 0 k) → ∀ (H : Heap) (locs : List Loc) (ls : Array Slot), va_P D vwCl [(g0, .inr (9, [.ref g1, .ref g2, .ref g3, .ref g4, .ref g5, .ref g6, .ref g7, .ref g8, .ref g9, .ref g10, .ref g11, .ref g12, .ref g13, .ref g14, .ref g15, .int isz, .int 0, .int ico, .int icl, .int irw, .int ibi, .int ien, .int itr, .int ibl, .int ile, .int igr, .int ibk, .int ist, .int ibr])), (g1, .inl (cI, 4, .inl (upd wd 0 wi))), (g2, .inl (cI, 4, .inl (upd hg 0 he))), (g3, .inl (cI, 576, .inl f))] H → va_D A [(g0, .inr (9, [.ref g1, .ref g2, .ref g3, .ref g4, .ref g5, .ref g6, .ref g7, .ref g8, .ref g9, .ref g10, .ref g11, .ref g12, .ref g13, .ref g14, .ref g15, .int isz, .int 0, .int ico, .int icl, .int irw, .int ibi, .int ien, .int itr, .int ibl, .int ile, .int igr, .int ibk, .int ist, .int ibr])), (g1, .inl (cI, 4, .inl (upd wd 0 wi))), (g2, .inl (cI, 4, .inl (upd hg 0 he))), (g3, .inl (cI, 576, .inl f))] → va_S A s.heap H locs → lv_has ls 4 [(0, .ref g0), (1, .int wi), (2, .int he), (3, .int (nI k))] → W p l e ({ frames := 0, cells := 0, slots := 0, locals := 0 } : Room) s m ([.ref g0, .int wi, .int he] : List Value).toArray below meth c H locs 0 0 (MQ below (va_Qi (q_mo_size cI g0 g1 g2 g3 g4 g5 g6 g7 g8 g9 g10 g11 g12 g13 g14 g15 isz ith ico icl irw ibi ien itr ibl ile igr ibk ist ibr wd hg pix wi he) (cs_B D vwCl tys A) A) ([.ref g0, .int wi, .int he] : List Value).toArray s 0 0 A) (F0 m 61 ls []) := by
              intro n
              induction n with
              | zero =>
                intro k f hf hk hf2
                exact absurd hf (by omega)
              | succ n ih61 =>
                intro k f hf hk hf2 H locs ls hP hD hS hl
                refine lv_iload_n hx hb d_Model_size_61 rfl (lv_at hl 3 rfl) ?_
                refine lv_sipush (v := 144) hx hb d_Model_size_62 (by decide) ?_
                refine lv_icmp_ge (tgt := 81) hx hb d_Model_size_65 (by decide) (fun c_65 => ?_) (fun c_65 => ?_)
                · have hk2 := (nI_leI (a := 144) (b := k) (by decide) (by omega)).mp c_65
                  have hk3 : k = 144 := by omega
                  subst hk3
                  refine lv_iload_n hx hb d_Model_size_81 rfl (lv_at hl 1 rfl) ?_
                  refine lv_iload_n hx hb d_Model_size_82 rfl (lv_at hl 2 rfl) ?_
                  refine lv_imul hx hb d_Model_size_83 ?_
                  refine lv_bipush (v := 16) hx hb d_Model_size_84 (by decide) ?_
                  refine lv_idiv hx hb d_Model_size_86 (by decide) ?_
                  exact W.iret (v := ((wi * he) / 16)) hx hb hr (fun t ht hW => ⟨⟨((wi * he) / 16), [(g0, .inr (9, [.ref g1, .ref g2, .ref g3, .ref g4, .ref g5, .ref g6, .ref g7, .ref g8, .ref g9, .ref g10, .ref g11, .ref g12, .ref g13, .ref g14, .ref g15, .int isz, .int 0, .int ico, .int icl, .int irw, .int ibi, .int ien, .int itr, .int ibl, .int ile, .int igr, .int ibk, .int ist, .int ibr])), (g1, .inl (cI, 4, .inl (upd wd 0 wi))), (g2, .inl (cI, 4, .inl (upd hg 0 he))), (g3, .inl (cI, 576, .inl f))], rfl, ⟨(rfl), (by rw [hf2])⟩, by rw [ht]; exact hP, va_K.moved hW.alike hK, hD⟩, hS.F ht⟩) hS.2.2 d_Model_size_87
                · have hk2 : k < 144 := Nat.not_le.mp (fun h => c_65 ((nI_leI (a := 144) (b := k) (by decide) (by omega)).mpr h))
                  refine lv_aload_n hx hb d_Model_size_68 rfl (lv_at hl 0 rfl) ?_
                  refine va_get (D := D) (ci := 9) (v := .ref g3) (C := "TileForgeModel") (T := T_Model) (N := 29) hx hb hts (cs_in in_Model) hown hK hP 0 rfl rfl 2 (by decide) (hts _ (cs_m mw_354)) (fun _ h9 => h9) rfl d_Model_size_69 ?_
                  refine lv_iload_n hx hb d_Model_size_72 rfl (lv_at hl 3 rfl) ?_
                  refine lv_iconst (v := 0) hx hb d_Model_size_73 (by decide) ?_
                  refine cs_iast (j := 0 + k) hx hb hK hcI hP hD hS 3 rfl (congrArg nI (by omega)) (by omega) (by decide) d_Model_size_74 (fun H locs hP hD hS => ?_)
                  have hP : va_P D vwCl [(g0, .inr (9, [.ref g1, .ref g2, .ref g3, .ref g4, .ref g5, .ref g6, .ref g7, .ref g8, .ref g9, .ref g10, .ref g11, .ref g12, .ref g13, .ref g14, .ref g15, .int isz, .int 0, .int ico, .int icl, .int irw, .int ibi, .int ien, .int itr, .int ibl, .int ile, .int igr, .int ibk, .int ist, .int ibr])), (g1, .inl (cI, 4, .inl (upd wd 0 wi))), (g2, .inl (cI, 4, .inl (upd hg 0 he))), (g3, .inl (cI, 576, .inl (upd f (0 + k) 0)))] H := hP
                  have hD : va_D A [(g0, .inr (9, [.ref g1, .ref g2, .ref g3, .ref g4, .ref g5, .ref g6, .ref g7, .ref g8, .ref g9, .ref g10, .ref g11, .ref g12, .ref g13, .ref g14, .ref g15, .int isz, .int 0, .int ico, .int icl, .int irw, .int ibi, .int ien, .int itr, .int ibl, .int ile, .int igr, .int ibk, .int ist, .int ibr])), (g1, .inl (cI, 4, .inl (upd wd 0 wi))), (g2, .inl (cI, 4, .inl (upd hg 0 he))), (g3, .inl (cI, 576, .inl (upd f (0 + k) 0)))] := hD
                  refine lv_iinc (v := nI (k + 1)) (lv' := [(3, .int (nI (k + 1))), (0, .ref g0), (1, .int wi), (2, .int he)]) hx hb d_Model_size_75 hl (k := 3) rfl (nI_1 _) (by decide) rfl (fun ls hl => ?_)
                  refine lv_goto (tgt := 61) hx hb d_Model_size_78 (by decide) ?_
                  exact ih61 (k + 1) (upd f (0 + k) 0) (by omega) (by omega) (by rw [hf2]; exact flN_s) _ _ _ (hP.sub (ws' := [(g0, .inr (9, [.ref g1, .ref g2, .ref g3, .ref g4, .ref g5, .ref g6, .ref g7, .ref g8, .ref g9, .ref g10, .ref g11, .ref g12, .ref g13, .ref g14, .ref g15, .int isz, .int 0, .int ico, .int icl, .int irw, .int ibi, .int ien, .int itr, .int ibl, .int ile, .int igr, .int ibk, .int ist, .int ibr])), (g1, .inl (cI, 4, .inl (upd wd 0 wi))), (g2, .inl (cI, 4, .inl (upd hg 0 he))), (g3, .inl (cI, 576, .inl (upd f (0 + k) 0)))]) [0, 1, 2, 3] rfl) (hD.sub (ws' := [(g0, .inr (9, [.ref g1, .ref g2, .ref g3, .ref g4, .ref g5, .ref g6, .ref g7, .ref g8, .ref g9, .ref g10, .ref g11, .ref g12, .ref g13, .ref g14, .ref g15, .int isz, .int 0, .int ico, .int icl, .int irw, .int ibi, .int ien, .int itr, .int ibl, .int ile, .int igr, .int ibk, .int ist, .int ibr])), (g1, .inl (cI, 4, .inl (upd wd 0 wi))), (g2, .inl (cI, 4, .inl (upd hg 0 he))), (g3, .inl (cI, 576, .inl (upd f (0 + k) 0)))]) [0, 1, 2, 3] (by decide) rfl) hS (lv_sub hl [1, 2, 3, 0] rfl)
            exact lp61 (145) 0 pix (by omega) (by omega) (flN_0.symm) _ _ _ (hP.sub (ws' := [(g0, .inr (9, [.ref g1, .ref g2, .ref g3, .ref g4, .ref g5, .ref g6, .ref g7, .ref g8, .ref g9, .ref g10, .ref g11, .ref g12, .ref g13, .ref g14, .ref g15, .int isz, .int 0, .int ico, .int icl, .int irw, .int ibi, .int ien, .int itr, .int ibl, .int ile, .int igr, .int ibk, .int ist, .int ibr])), (g1, .inl (cI, 4, .inl (upd wd 0 wi))), (g2, .inl (cI, 4, .inl (upd hg 0 he))), (g3, .inl (cI, 576, .inl pix))]) [0, 1, 2, 3] rfl) (hD.sub (ws' := [(g0, .inr (9, [.ref g1, .ref g2, .ref g3, .ref g4, .ref g5, .ref g6, .ref g7, .ref g8, .ref g9, .ref g10, .ref g11, .ref g12, .ref g13, .ref g14, .ref g15, .int isz, .int 0, .int ico, .int icl, .int irw, .int ibi, .int ien, .int itr, .int ibl, .int ile, .int igr, .int ibk, .int ist, .int ibr])), (g1, .inl (cI, 4, .inl (upd wd 0 wi))), (g2, .inl (cI, 4, .inl (upd hg 0 he))), (g3, .inl (cI, 576, .inl pix))]) [0, 1, 2, 3] (by decide) rfl) hS (lv_sub hl [1, 2, 3, 0] rfl)
          · exact absurd hsh (fun h => h.elim c_19 (fun h => h.elim c_25 c_31))
    · refine lv_iload_n hx hb d_Model_size_11 rfl (lv_at hl 1 rfl) ?_
      refine lv_bipush (v := 12) hx hb d_Model_size_12 (by decide) ?_
      refine lv_icmp_ne (tgt := 34) hx hb d_Model_size_14 (by decide) (fun c_14 => ?_) (fun c_14 => ?_)
      · exact absurd hsw (fun h => h.elim c_2 (fun h => h.elim c_8 c_14))
      · refine lv_iload_n hx hb d_Model_size_17 rfl (lv_at hl 2 rfl) ?_
        refine lv_iconst (v := 4) hx hb d_Model_size_18 (by decide) ?_
        refine lv_icmp_eq (tgt := 40) hx hb d_Model_size_19 (by decide) (fun c_19 => ?_) (fun c_19 => ?_)
        · refine lv_aload_n hx hb d_Model_size_40 rfl (lv_at hl 0 rfl) ?_
          refine lv_iconst (v := 0) hx hb d_Model_size_41 (by decide) ?_
          refine va_put (D := D) (ci := 9) (v := .int 0) (ty := .int) (C := "TileForgeModel") (T := T_Model) (N := 29) hx hb hts (cs_in in_Model) ty_Model tok_Model nm_Model hown hK hP hD hS 0 rfl rfl 16 (by decide) (hts _ (cs_m mw_343)) (fun _ h9 => h9) rfl (by decide +kernel) rfl rfl (Nat.le_of_ble_eq_true rfl) d_Model_size_42 (fun H locs hP hD hS => ?_)
          have hP : va_P D vwCl [(g0, .inr (9, [.ref g1, .ref g2, .ref g3, .ref g4, .ref g5, .ref g6, .ref g7, .ref g8, .ref g9, .ref g10, .ref g11, .ref g12, .ref g13, .ref g14, .ref g15, .int isz, .int 0, .int ico, .int icl, .int irw, .int ibi, .int ien, .int itr, .int ibl, .int ile, .int igr, .int ibk, .int ist, .int ibr])), (g1, .inl (cI, 4, .inl wd)), (g2, .inl (cI, 4, .inl hg)), (g3, .inl (cI, 576, .inl pix))] H := hP
          have hD : va_D A [(g0, .inr (9, [.ref g1, .ref g2, .ref g3, .ref g4, .ref g5, .ref g6, .ref g7, .ref g8, .ref g9, .ref g10, .ref g11, .ref g12, .ref g13, .ref g14, .ref g15, .int isz, .int 0, .int ico, .int icl, .int irw, .int ibi, .int ien, .int itr, .int ibl, .int ile, .int igr, .int ibk, .int ist, .int ibr])), (g1, .inl (cI, 4, .inl wd)), (g2, .inl (cI, 4, .inl hg)), (g3, .inl (cI, 576, .inl pix))] := hD
          refine lv_aload_n hx hb d_Model_size_45 rfl (lv_at hl 0 rfl) ?_
          refine va_get (D := D) (ci := 9) (v := .ref g1) (C := "TileForgeModel") (T := T_Model) (N := 29) hx hb hts (cs_in in_Model) hown hK hP 0 rfl rfl 0 (by decide) (hts _ (cs_m mw_348)) (fun _ h9 => h9) rfl d_Model_size_46 ?_
          refine lv_iconst (v := 0) hx hb d_Model_size_49 (by decide) ?_
          refine lv_iload_n hx hb d_Model_size_50 rfl (lv_at hl 1 rfl) ?_
          refine cs_iast (j := 0) hx hb hK hcI hP hD hS 1 rfl (rfl) (by decide) (by decide) d_Model_size_51 (fun H locs hP hD hS => ?_)
          have hP : va_P D vwCl [(g0, .inr (9, [.ref g1, .ref g2, .ref g3, .ref g4, .ref g5, .ref g6, .ref g7, .ref g8, .ref g9, .ref g10, .ref g11, .ref g12, .ref g13, .ref g14, .ref g15, .int isz, .int 0, .int ico, .int icl, .int irw, .int ibi, .int ien, .int itr, .int ibl, .int ile, .int igr, .int ibk, .int ist, .int ibr])), (g1, .inl (cI, 4, .inl (upd wd 0 wi))), (g2, .inl (cI, 4, .inl hg)), (g3, .inl (cI, 576, .inl pix))] H := hP
          have hD : va_D A [(g0, .inr (9, [.ref g1, .ref g2, .ref g3, .ref g4, .ref g5, .ref g6, .ref g7, .ref g8, .ref g9, .ref g10, .ref g11, .ref g12, .ref g13, .ref g14, .ref g15, .int isz, .int 0, .int ico, .int icl, .int irw, .int ibi, .int ien, .int itr, .int ibl, .int ile, .int igr, .int ibk, .int ist, .int ibr])), (g1, .inl (cI, 4, .inl (upd wd 0 wi))), (g2, .inl (cI, 4, .inl hg)), (g3, .inl (cI, 576, .inl pix))] := hD
          refine lv_aload_n hx hb d_Model_size_52 rfl (lv_at hl 0 rfl) ?_
          refine va_get (D := D) (ci := 9) (v := .ref g2) (C := "TileForgeModel") (T := T_Model) (N := 29) hx hb hts (cs_in in_Model) hown hK hP 0 rfl rfl 1 (by decide) (hts _ (cs_m mw_352)) (fun _ h9 => h9) rfl d_Model_size_53 ?_
          refine lv_iconst (v := 0) hx hb d_Model_size_56 (by decide) ?_
          refine lv_iload_n hx hb d_Model_size_57 rfl (lv_at hl 2 rfl) ?_
          refine cs_iast (j := 0) hx hb hK hcI hP hD hS 2 rfl (rfl) (by decide) (by decide) d_Model_size_58 (fun H locs hP hD hS => ?_)
          have hP : va_P D vwCl [(g0, .inr (9, [.ref g1, .ref g2, .ref g3, .ref g4, .ref g5, .ref g6, .ref g7, .ref g8, .ref g9, .ref g10, .ref g11, .ref g12, .ref g13, .ref g14, .ref g15, .int isz, .int 0, .int ico, .int icl, .int irw, .int ibi, .int ien, .int itr, .int ibl, .int ile, .int igr, .int ibk, .int ist, .int ibr])), (g1, .inl (cI, 4, .inl (upd wd 0 wi))), (g2, .inl (cI, 4, .inl (upd hg 0 he))), (g3, .inl (cI, 576, .inl pix))] H := hP
          have hD : va_D A [(g0, .inr (9, [.ref g1, .ref g2, .ref g3, .ref g4, .ref g5, .ref g6, .ref g7, .ref g8, .ref g9, .ref g10, .ref g11, .ref g12, .ref g13, .ref g14, .ref g15, .int isz, .int 0, .int ico, .int icl, .int irw, .int ibi, .int ien, .int itr, .int ibl, .int ile, .int igr, .int ibk, .int ist, .int ibr])), (g1, .inl (cI, 4, .inl (upd wd 0 wi))), (g2, .inl (cI, 4, .inl (upd hg 0 he))), (g3, .inl (cI, 576, .inl pix))] := hD
          refine lv_iconst (v := 0) hx hb d_Model_size_59 (by decide) ?_
          refine lv_istore_n (lv' := [(3, .int 0), (0, .ref g0), (1, .int wi), (2, .int he)]) hx hb d_Model_size_60 rfl hl (by decide) rfl (fun ls hl => ?_)
          have lp61 : ∀ (n : Nat) (k : Nat) (f : Nat → Int32), (145 ≤ k + n) → (k ≤ 144) → (f = flN pix 0 0 k) → ∀ (H : Heap) (locs : List Loc) (ls : Array Slot), va_P D vwCl [(g0, .inr (9, [.ref g1, .ref g2, .ref g3, .ref g4, .ref g5, .ref g6, .ref g7, .ref g8, .ref g9, .ref g10, .ref g11, .ref g12, .ref g13, .ref g14, .ref g15, .int isz, .int 0, .int ico, .int icl, .int irw, .int ibi, .int ien, .int itr, .int ibl, .int ile, .int igr, .int ibk, .int ist, .int ibr])), (g1, .inl (cI, 4, .inl (upd wd 0 wi))), (g2, .inl (cI, 4, .inl (upd hg 0 he))), (g3, .inl (cI, 576, .inl f))] H → va_D A [(g0, .inr (9, [.ref g1, .ref g2, .ref g3, .ref g4, .ref g5, .ref g6, .ref g7, .ref g8, .ref g9, .ref g10, .ref g11, .ref g12, .ref g13, .ref g14, .ref g15, .int isz, .int 0, .int ico, .int icl, .int irw, .int ibi, .int ien, .int itr, .int ibl, .int ile, .int igr, .int ibk, .int ist, .int ibr])), (g1, .inl (cI, 4, .inl (upd wd 0 wi))), (g2, .inl (cI, 4, .inl (upd hg 0 he))), (g3, .inl (cI, 576, .inl f))] → va_S A s.heap H locs → lv_has ls 4 [(0, .ref g0), (1, .int wi), (2, .int he), (3, .int (nI k))] → W p l e ({ frames := 0, cells := 0, slots := 0, locals := 0 } : Room) s m ([.ref g0, .int wi, .int he] : List Value).toArray below meth c H locs 0 0 (MQ below (va_Qi (q_mo_size cI g0 g1 g2 g3 g4 g5 g6 g7 g8 g9 g10 g11 g12 g13 g14 g15 isz ith ico icl irw ibi ien itr ibl ile igr ibk ist ibr wd hg pix wi he) (cs_B D vwCl tys A) A) ([.ref g0, .int wi, .int he] : List Value).toArray s 0 0 A) (F0 m 61 ls []) := by
            intro n
            induction n with
            | zero =>
              intro k f hf hk hf2
              exact absurd hf (by omega)
            | succ n ih61 =>
              intro k f hf hk hf2 H locs ls hP hD hS hl
              refine lv_iload_n hx hb d_Model_size_61 rfl (lv_at hl 3 rfl) ?_
              refine lv_sipush (v := 144) hx hb d_Model_size_62 (by decide) ?_
              refine lv_icmp_ge (tgt := 81) hx hb d_Model_size_65 (by decide) (fun c_65 => ?_) (fun c_65 => ?_)
              · have hk2 := (nI_leI (a := 144) (b := k) (by decide) (by omega)).mp c_65
                have hk3 : k = 144 := by omega
                subst hk3
                refine lv_iload_n hx hb d_Model_size_81 rfl (lv_at hl 1 rfl) ?_
                refine lv_iload_n hx hb d_Model_size_82 rfl (lv_at hl 2 rfl) ?_
                refine lv_imul hx hb d_Model_size_83 ?_
                refine lv_bipush (v := 16) hx hb d_Model_size_84 (by decide) ?_
                refine lv_idiv hx hb d_Model_size_86 (by decide) ?_
                exact W.iret (v := ((wi * he) / 16)) hx hb hr (fun t ht hW => ⟨⟨((wi * he) / 16), [(g0, .inr (9, [.ref g1, .ref g2, .ref g3, .ref g4, .ref g5, .ref g6, .ref g7, .ref g8, .ref g9, .ref g10, .ref g11, .ref g12, .ref g13, .ref g14, .ref g15, .int isz, .int 0, .int ico, .int icl, .int irw, .int ibi, .int ien, .int itr, .int ibl, .int ile, .int igr, .int ibk, .int ist, .int ibr])), (g1, .inl (cI, 4, .inl (upd wd 0 wi))), (g2, .inl (cI, 4, .inl (upd hg 0 he))), (g3, .inl (cI, 576, .inl f))], rfl, ⟨(rfl), (by rw [hf2])⟩, by rw [ht]; exact hP, va_K.moved hW.alike hK, hD⟩, hS.F ht⟩) hS.2.2 d_Model_size_87
              · have hk2 : k < 144 := Nat.not_le.mp (fun h => c_65 ((nI_leI (a := 144) (b := k) (by decide) (by omega)).mpr h))
                refine lv_aload_n hx hb d_Model_size_68 rfl (lv_at hl 0 rfl) ?_
                refine va_get (D := D) (ci := 9) (v := .ref g3) (C := "TileForgeModel") (T := T_Model) (N := 29) hx hb hts (cs_in in_Model) hown hK hP 0 rfl rfl 2 (by decide) (hts _ (cs_m mw_354)) (fun _ h9 => h9) rfl d_Model_size_69 ?_
                refine lv_iload_n hx hb d_Model_size_72 rfl (lv_at hl 3 rfl) ?_
                refine lv_iconst (v := 0) hx hb d_Model_size_73 (by decide) ?_
                refine cs_iast (j := 0 + k) hx hb hK hcI hP hD hS 3 rfl (congrArg nI (by omega)) (by omega) (by decide) d_Model_size_74 (fun H locs hP hD hS => ?_)
                have hP : va_P D vwCl [(g0, .inr (9, [.ref g1, .ref g2, .ref g3, .ref g4, .ref g5, .ref g6, .ref g7, .ref g8, .ref g9, .ref g10, .ref g11, .ref g12, .ref g13, .ref g14, .ref g15, .int isz, .int 0, .int ico, .int icl, .int irw, .int ibi, .int ien, .int itr, .int ibl, .int ile, .int igr, .int ibk, .int ist, .int ibr])), (g1, .inl (cI, 4, .inl (upd wd 0 wi))), (g2, .inl (cI, 4, .inl (upd hg 0 he))), (g3, .inl (cI, 576, .inl (upd f (0 + k) 0)))] H := hP
                have hD : va_D A [(g0, .inr (9, [.ref g1, .ref g2, .ref g3, .ref g4, .ref g5, .ref g6, .ref g7, .ref g8, .ref g9, .ref g10, .ref g11, .ref g12, .ref g13, .ref g14, .ref g15, .int isz, .int 0, .int ico, .int icl, .int irw, .int ibi, .int ien, .int itr, .int ibl, .int ile, .int igr, .int ibk, .int ist, .int ibr])), (g1, .inl (cI, 4, .inl (upd wd 0 wi))), (g2, .inl (cI, 4, .inl (upd hg 0 he))), (g3, .inl (cI, 576, .inl (upd f (0 + k) 0)))] := hD
                refine lv_iinc (v := nI (k + 1)) (lv' := [(3, .int (nI (k + 1))), (0, .ref g0), (1, .int wi), (2, .int he)]) hx hb d_Model_size_75 hl (k := 3) rfl (nI_1 _) (by decide) rfl (fun ls hl => ?_)
                refine lv_goto (tgt := 61) hx hb d_Model_size_78 (by decide) ?_
                exact ih61 (k + 1) (upd f (0 + k) 0) (by omega) (by omega) (by rw [hf2]; exact flN_s) _ _ _ (hP.sub (ws' := [(g0, .inr (9, [.ref g1, .ref g2, .ref g3, .ref g4, .ref g5, .ref g6, .ref g7, .ref g8, .ref g9, .ref g10, .ref g11, .ref g12, .ref g13, .ref g14, .ref g15, .int isz, .int 0, .int ico, .int icl, .int irw, .int ibi, .int ien, .int itr, .int ibl, .int ile, .int igr, .int ibk, .int ist, .int ibr])), (g1, .inl (cI, 4, .inl (upd wd 0 wi))), (g2, .inl (cI, 4, .inl (upd hg 0 he))), (g3, .inl (cI, 576, .inl (upd f (0 + k) 0)))]) [0, 1, 2, 3] rfl) (hD.sub (ws' := [(g0, .inr (9, [.ref g1, .ref g2, .ref g3, .ref g4, .ref g5, .ref g6, .ref g7, .ref g8, .ref g9, .ref g10, .ref g11, .ref g12, .ref g13, .ref g14, .ref g15, .int isz, .int 0, .int ico, .int icl, .int irw, .int ibi, .int ien, .int itr, .int ibl, .int ile, .int igr, .int ibk, .int ist, .int ibr])), (g1, .inl (cI, 4, .inl (upd wd 0 wi))), (g2, .inl (cI, 4, .inl (upd hg 0 he))), (g3, .inl (cI, 576, .inl (upd f (0 + k) 0)))]) [0, 1, 2, 3] (by decide) rfl) hS (lv_sub hl [1, 2, 3, 0] rfl)
          exact lp61 (145) 0 pix (by omega) (by omega) (flN_0.symm) _ _ _ (hP.sub (ws' := [(g0, .inr (9, [.ref g1, .ref g2, .ref g3, .ref g4, .ref g5, .ref g6, .ref g7, .ref g8, .ref g9, .ref g10, .ref g11, .ref g12, .ref g13, .ref g14, .ref g15, .int isz, .int 0, .int ico, .int icl, .int irw, .int ibi, .int ien, .int itr, .int ibl, .int ile, .int igr, .int ibk, .int ist, .int ibr])), (g1, .inl (cI, 4, .inl (upd wd 0 wi))), (g2, .inl (cI, 4, .inl (upd hg 0 he))), (g3, .inl (cI, 576, .inl pix))]) [0, 1, 2, 3] rfl) (hD.sub (ws' := [(g0, .inr (9, [.ref g1, .ref g2, .ref g3, .ref g4, .ref g5, .ref g6, .ref g7, .ref g8, .ref g9, .ref g10, .ref g11, .ref g12, .ref g13, .ref g14, .ref g15, .int isz, .int 0, .int ico, .int icl, .int irw, .int ibi, .int ien, .int itr, .int ibl, .int ile, .int igr, .int ibk, .int ist, .int ibr])), (g1, .inl (cI, 4, .inl (upd wd 0 wi))), (g2, .inl (cI, 4, .inl (upd hg 0 he))), (g3, .inl (cI, 576, .inl pix))]) [0, 1, 2, 3] (by decide) rfl) hS (lv_sub hl [1, 2, 3, 0] rfl)
        · refine lv_iload_n hx hb d_Model_size_22 rfl (lv_at hl 2 rfl) ?_
          refine lv_bipush (v := 8) hx hb d_Model_size_23 (by decide) ?_
          refine lv_icmp_eq (tgt := 40) hx hb d_Model_size_25 (by decide) (fun c_25 => ?_) (fun c_25 => ?_)
          · refine lv_aload_n hx hb d_Model_size_40 rfl (lv_at hl 0 rfl) ?_
            refine lv_iconst (v := 0) hx hb d_Model_size_41 (by decide) ?_
            refine va_put (D := D) (ci := 9) (v := .int 0) (ty := .int) (C := "TileForgeModel") (T := T_Model) (N := 29) hx hb hts (cs_in in_Model) ty_Model tok_Model nm_Model hown hK hP hD hS 0 rfl rfl 16 (by decide) (hts _ (cs_m mw_343)) (fun _ h9 => h9) rfl (by decide +kernel) rfl rfl (Nat.le_of_ble_eq_true rfl) d_Model_size_42 (fun H locs hP hD hS => ?_)
            have hP : va_P D vwCl [(g0, .inr (9, [.ref g1, .ref g2, .ref g3, .ref g4, .ref g5, .ref g6, .ref g7, .ref g8, .ref g9, .ref g10, .ref g11, .ref g12, .ref g13, .ref g14, .ref g15, .int isz, .int 0, .int ico, .int icl, .int irw, .int ibi, .int ien, .int itr, .int ibl, .int ile, .int igr, .int ibk, .int ist, .int ibr])), (g1, .inl (cI, 4, .inl wd)), (g2, .inl (cI, 4, .inl hg)), (g3, .inl (cI, 576, .inl pix))] H := hP
            have hD : va_D A [(g0, .inr (9, [.ref g1, .ref g2, .ref g3, .ref g4, .ref g5, .ref g6, .ref g7, .ref g8, .ref g9, .ref g10, .ref g11, .ref g12, .ref g13, .ref g14, .ref g15, .int isz, .int 0, .int ico, .int icl, .int irw, .int ibi, .int ien, .int itr, .int ibl, .int ile, .int igr, .int ibk, .int ist, .int ibr])), (g1, .inl (cI, 4, .inl wd)), (g2, .inl (cI, 4, .inl hg)), (g3, .inl (cI, 576, .inl pix))] := hD
            refine lv_aload_n hx hb d_Model_size_45 rfl (lv_at hl 0 rfl) ?_
            refine va_get (D := D) (ci := 9) (v := .ref g1) (C := "TileForgeModel") (T := T_Model) (N := 29) hx hb hts (cs_in in_Model) hown hK hP 0 rfl rfl 0 (by decide) (hts _ (cs_m mw_348)) (fun _ h9 => h9) rfl d_Model_size_46 ?_
            refine lv_iconst (v := 0) hx hb d_Model_size_49 (by decide) ?_
            refine lv_iload_n hx hb d_Model_size_50 rfl (lv_at hl 1 rfl) ?_
            refine cs_iast (j := 0) hx hb hK hcI hP hD hS 1 rfl (rfl) (by decide) (by decide) d_Model_size_51 (fun H locs hP hD hS => ?_)
            have hP : va_P D vwCl [(g0, .inr (9, [.ref g1, .ref g2, .ref g3, .ref g4, .ref g5, .ref g6, .ref g7, .ref g8, .ref g9, .ref g10, .ref g11, .ref g12, .ref g13, .ref g14, .ref g15, .int isz, .int 0, .int ico, .int icl, .int irw, .int ibi, .int ien, .int itr, .int ibl, .int ile, .int igr, .int ibk, .int ist, .int ibr])), (g1, .inl (cI, 4, .inl (upd wd 0 wi))), (g2, .inl (cI, 4, .inl hg)), (g3, .inl (cI, 576, .inl pix))] H := hP
            have hD : va_D A [(g0, .inr (9, [.ref g1, .ref g2, .ref g3, .ref g4, .ref g5, .ref g6, .ref g7, .ref g8, .ref g9, .ref g10, .ref g11, .ref g12, .ref g13, .ref g14, .ref g15, .int isz, .int 0, .int ico, .int icl, .int irw, .int ibi, .int ien, .int itr, .int ibl, .int ile, .int igr, .int ibk, .int ist, .int ibr])), (g1, .inl (cI, 4, .inl (upd wd 0 wi))), (g2, .inl (cI, 4, .inl hg)), (g3, .inl (cI, 576, .inl pix))] := hD
            refine lv_aload_n hx hb d_Model_size_52 rfl (lv_at hl 0 rfl) ?_
            refine va_get (D := D) (ci := 9) (v := .ref g2) (C := "TileForgeModel") (T := T_Model) (N := 29) hx hb hts (cs_in in_Model) hown hK hP 0 rfl rfl 1 (by decide) (hts _ (cs_m mw_352)) (fun _ h9 => h9) rfl d_Model_size_53 ?_
            refine lv_iconst (v := 0) hx hb d_Model_size_56 (by decide) ?_
            refine lv_iload_n hx hb d_Model_size_57 rfl (lv_at hl 2 rfl) ?_
            refine cs_iast (j := 0) hx hb hK hcI hP hD hS 2 rfl (rfl) (by decide) (by decide) d_Model_size_58 (fun H locs hP hD hS => ?_)
            have hP : va_P D vwCl [(g0, .inr (9, [.ref g1, .ref g2, .ref g3, .ref g4, .ref g5, .ref g6, .ref g7, .ref g8, .ref g9, .ref g10, .ref g11, .ref g12, .ref g13, .ref g14, .ref g15, .int isz, .int 0, .int ico, .int icl, .int irw, .int ibi, .int ien, .int itr, .int ibl, .int ile, .int igr, .int ibk, .int ist, .int ibr])), (g1, .inl (cI, 4, .inl (upd wd 0 wi))), (g2, .inl (cI, 4, .inl (upd hg 0 he))), (g3, .inl (cI, 576, .inl pix))] H := hP
            have hD : va_D A [(g0, .inr (9, [.ref g1, .ref g2, .ref g3, .ref g4, .ref g5, .ref g6, .ref g7, .ref g8, .ref g9, .ref g10, .ref g11, .ref g12, .ref g13, .ref g14, .ref g15, .int isz, .int 0, .int ico, .int icl, .int irw, .int ibi, .int ien, .int itr, .int ibl, .int ile, .int igr, .int ibk, .int ist, .int ibr])), (g1, .inl (cI, 4, .inl (upd wd 0 wi))), (g2, .inl (cI, 4, .inl (upd hg 0 he))), (g3, .inl (cI, 576, .inl pix))] := hD
            refine lv_iconst (v := 0) hx hb d_Model_size_59 (by decide) ?_
            refine lv_istore_n (lv' := [(3, .int 0), (0, .ref g0), (1, .int wi), (2, .int he)]) hx hb d_Model_size_60 rfl hl (by decide) rfl (fun ls hl => ?_)
            have lp61 : ∀ (n : Nat) (k : Nat) (f : Nat → Int32), (145 ≤ k + n) → (k ≤ 144) → (f = flN pix 0 0 k) → ∀ (H : Heap) (locs : List Loc) (ls : Array Slot), va_P D vwCl [(g0, .inr (9, [.ref g1, .ref g2, .ref g3, .ref g4, .ref g5, .ref g6, .ref g7, .ref g8, .ref g9, .ref g10, .ref g11, .ref g12, .ref g13, .ref g14, .ref g15, .int isz, .int 0, .int ico, .int icl, .int irw, .int ibi, .int ien, .int itr, .int ibl, .int ile, .int igr, .int ibk, .int ist, .int ibr])), (g1, .inl (cI, 4, .inl (upd wd 0 wi))), (g2, .inl (cI, 4, .inl (upd hg 0 he))), (g3, .inl (cI, 576, .inl f))] H → va_D A [(g0, .inr (9, [.ref g1, .ref g2, .ref g3, .ref g4, .ref g5, .ref g6, .ref g7, .ref g8, .ref g9, .ref g10, .ref g11, .ref g12, .ref g13, .ref g14, .ref g15, .int isz, .int 0, .int ico, .int icl, .int irw, .int ibi, .int ien, .int itr, .int ibl, .int ile, .int igr, .int ibk, .int ist, .int ibr])), (g1, .inl (cI, 4, .inl (upd wd 0 wi))), (g2, .inl (cI, 4, .inl (upd hg 0 he))), (g3, .inl (cI, 576, .inl f))] → va_S A s.heap H locs → lv_has ls 4 [(0, .ref g0), (1, .int wi), (2, .int he), (3, .int (nI k))] → W p l e ({ frames := 0, cells := 0, slots := 0, locals := 0 } : Room) s m ([.ref g0, .int wi, .int he] : List Value).toArray below meth c H locs 0 0 (MQ below (va_Qi (q_mo_size cI g0 g1 g2 g3 g4 g5 g6 g7 g8 g9 g10 g11 g12 g13 g14 g15 isz ith ico icl irw ibi ien itr ibl ile igr ibk ist ibr wd hg pix wi he) (cs_B D vwCl tys A) A) ([.ref g0, .int wi, .int he] : List Value).toArray s 0 0 A) (F0 m 61 ls []) := by
              intro n
              induction n with
              | zero =>
                intro k f hf hk hf2
                exact absurd hf (by omega)
              | succ n ih61 =>
                intro k f hf hk hf2 H locs ls hP hD hS hl
                refine lv_iload_n hx hb d_Model_size_61 rfl (lv_at hl 3 rfl) ?_
                refine lv_sipush (v := 144) hx hb d_Model_size_62 (by decide) ?_
                refine lv_icmp_ge (tgt := 81) hx hb d_Model_size_65 (by decide) (fun c_65 => ?_) (fun c_65 => ?_)
                · have hk2 := (nI_leI (a := 144) (b := k) (by decide) (by omega)).mp c_65
                  have hk3 : k = 144 := by omega
                  subst hk3
                  refine lv_iload_n hx hb d_Model_size_81 rfl (lv_at hl 1 rfl) ?_
                  refine lv_iload_n hx hb d_Model_size_82 rfl (lv_at hl 2 rfl) ?_
                  refine lv_imul hx hb d_Model_size_83 ?_
                  refine lv_bipush (v := 16) hx hb d_Model_size_84 (by decide) ?_
                  refine lv_idiv hx hb d_Model_size_86 (by decide) ?_
                  exact W.iret (v := ((wi * he) / 16)) hx hb hr (fun t ht hW => ⟨⟨((wi * he) / 16), [(g0, .inr (9, [.ref g1, .ref g2, .ref g3, .ref g4, .ref g5, .ref g6, .ref g7, .ref g8, .ref g9, .ref g10, .ref g11, .ref g12, .ref g13, .ref g14, .ref g15, .int isz, .int 0, .int ico, .int icl, .int irw, .int ibi, .int ien, .int itr, .int ibl, .int ile, .int igr, .int ibk, .int ist, .int ibr])), (g1, .inl (cI, 4, .inl (upd wd 0 wi))), (g2, .inl (cI, 4, .inl (upd hg 0 he))), (g3, .inl (cI, 576, .inl f))], rfl, ⟨(rfl), (by rw [hf2])⟩, by rw [ht]; exact hP, va_K.moved hW.alike hK, hD⟩, hS.F ht⟩) hS.2.2 d_Model_size_87
                · have hk2 : k < 144 := Nat.not_le.mp (fun h => c_65 ((nI_leI (a := 144) (b := k) (by decide) (by omega)).mpr h))
                  refine lv_aload_n hx hb d_Model_size_68 rfl (lv_at hl 0 rfl) ?_
                  refine va_get (D := D) (ci := 9) (v := .ref g3) (C := "TileForgeModel") (T := T_Model) (N := 29) hx hb hts (cs_in in_Model) hown hK hP 0 rfl rfl 2 (by decide) (hts _ (cs_m mw_354)) (fun _ h9 => h9) rfl d_Model_size_69 ?_
                  refine lv_iload_n hx hb d_Model_size_72 rfl (lv_at hl 3 rfl) ?_
                  refine lv_iconst (v := 0) hx hb d_Model_size_73 (by decide) ?_
                  refine cs_iast (j := 0 + k) hx hb hK hcI hP hD hS 3 rfl (congrArg nI (by omega)) (by omega) (by decide) d_Model_size_74 (fun H locs hP hD hS => ?_)
                  have hP : va_P D vwCl [(g0, .inr (9, [.ref g1, .ref g2, .ref g3, .ref g4, .ref g5, .ref g6, .ref g7, .ref g8, .ref g9, .ref g10, .ref g11, .ref g12, .ref g13, .ref g14, .ref g15, .int isz, .int 0, .int ico, .int icl, .int irw, .int ibi, .int ien, .int itr, .int ibl, .int ile, .int igr, .int ibk, .int ist, .int ibr])), (g1, .inl (cI, 4, .inl (upd wd 0 wi))), (g2, .inl (cI, 4, .inl (upd hg 0 he))), (g3, .inl (cI, 576, .inl (upd f (0 + k) 0)))] H := hP
                  have hD : va_D A [(g0, .inr (9, [.ref g1, .ref g2, .ref g3, .ref g4, .ref g5, .ref g6, .ref g7, .ref g8, .ref g9, .ref g10, .ref g11, .ref g12, .ref g13, .ref g14, .ref g15, .int isz, .int 0, .int ico, .int icl, .int irw, .int ibi, .int ien, .int itr, .int ibl, .int ile, .int igr, .int ibk, .int ist, .int ibr])), (g1, .inl (cI, 4, .inl (upd wd 0 wi))), (g2, .inl (cI, 4, .inl (upd hg 0 he))), (g3, .inl (cI, 576, .inl (upd f (0 + k) 0)))] := hD
                  refine lv_iinc (v := nI (k + 1)) (lv' := [(3, .int (nI (k + 1))), (0, .ref g0), (1, .int wi), (2, .int he)]) hx hb d_Model_size_75 hl (k := 3) rfl (nI_1 _) (by decide) rfl (fun ls hl => ?_)
                  refine lv_goto (tgt := 61) hx hb d_Model_size_78 (by decide) ?_
                  exact ih61 (k + 1) (upd f (0 + k) 0) (by omega) (by omega) (by rw [hf2]; exact flN_s) _ _ _ (hP.sub (ws' := [(g0, .inr (9, [.ref g1, .ref g2, .ref g3, .ref g4, .ref g5, .ref g6, .ref g7, .ref g8, .ref g9, .ref g10, .ref g11, .ref g12, .ref g13, .ref g14, .ref g15, .int isz, .int 0, .int ico, .int icl, .int irw, .int ibi, .int ien, .int itr, .int ibl, .int ile, .int igr, .int ibk, .int ist, .int ibr])), (g1, .inl (cI, 4, .inl (upd wd 0 wi))), (g2, .inl (cI, 4, .inl (upd hg 0 he))), (g3, .inl (cI, 576, .inl (upd f (0 + k) 0)))]) [0, 1, 2, 3] rfl) (hD.sub (ws' := [(g0, .inr (9, [.ref g1, .ref g2, .ref g3, .ref g4, .ref g5, .ref g6, .ref g7, .ref g8, .ref g9, .ref g10, .ref g11, .ref g12, .ref g13, .ref g14, .ref g15, .int isz, .int 0, .int ico, .int icl, .int irw, .int ibi, .int ien, .int itr, .int ibl, .int ile, .int igr, .int ibk, .int ist, .int ibr])), (g1, .inl (cI, 4, .inl (upd wd 0 wi))), (g2, .inl (cI, 4, .inl (upd hg 0 he))), (g3, .inl (cI, 576, .inl (upd f (0 + k) 0)))]) [0, 1, 2, 3] (by decide) rfl) hS (lv_sub hl [1, 2, 3, 0] rfl)
            exact lp61 (145) 0 pix (by omega) (by omega) (flN_0.symm) _ _ _ (hP.sub (ws' := [(g0, .inr (9, [.ref g1, .ref g2, .ref g3, .ref g4, .ref g5, .ref g6, .ref g7, .ref g8, .ref g9, .ref g10, .ref g11, .ref g12, .ref g13, .ref g14, .ref g15, .int isz, .int 0, .int ico, .int icl, .int irw, .int ibi, .int ien, .int itr, .int ibl, .int ile, .int igr, .int ibk, .int ist, .int ibr])), (g1, .inl (cI, 4, .inl (upd wd 0 wi))), (g2, .inl (cI, 4, .inl (upd hg 0 he))), (g3, .inl (cI, 576, .inl pix))]) [0, 1, 2, 3] rfl) (hD.sub (ws' := [(g0, .inr (9, [.ref g1, .ref g2, .ref g3, .ref g4, .ref g5, .ref g6, .ref g7, .ref g8, .ref g9, .ref g10, .ref g11, .ref g12, .ref g13, .ref g14, .ref g15, .int isz, .int 0, .int ico, .int icl, .int irw, .int ibi, .int ien, .int itr, .int ibl, .int ile, .int igr, .int ibk, .int ist, .int ibr])), (g1, .inl (cI, 4, .inl (upd wd 0 wi))), (g2, .inl (cI, 4, .inl (upd hg 0 he))), (g3, .inl (cI, 576, .inl pix))]) [0, 1, 2, 3] (by decide) rfl) hS (lv_sub hl [1, 2, 3, 0] rfl)
          · refine lv_iload_n hx hb d_Model_size_28 rfl (lv_at hl 2 rfl) ?_
            refine lv_bipush (v := 12) hx hb d_Model_size_29 (by decide) ?_
            refine lv_icmp_eq (tgt := 40) hx hb d_Model_size_31 (by decide) (fun c_31 => ?_) (fun c_31 => ?_)
            · refine lv_aload_n hx hb d_Model_size_40 rfl (lv_at hl 0 rfl) ?_
              refine lv_iconst (v := 0) hx hb d_Model_size_41 (by decide) ?_
              refine va_put (D := D) (ci := 9) (v := .int 0) (ty := .int) (C := "TileForgeModel") (T := T_Model) (N := 29) hx hb hts (cs_in in_Model) ty_Model tok_Model nm_Model hown hK hP hD hS 0 rfl rfl 16 (by decide) (hts _ (cs_m mw_343)) (fun _ h9 => h9) rfl (by decide +kernel) rfl rfl (Nat.le_of_ble_eq_true rfl) d_Model_size_42 (fun H locs hP hD hS => ?_)
              have hP : va_P D vwCl [(g0, .inr (9, [.ref g1, .ref g2, .ref g3, .ref g4, .ref g5, .ref g6, .ref g7, .ref g8, .ref g9, .ref g10, .ref g11, .ref g12, .ref g13, .ref g14, .ref g15, .int isz, .int 0, .int ico, .int icl, .int irw, .int ibi, .int ien, .int itr, .int ibl, .int ile, .int igr, .int ibk, .int ist, .int ibr])), (g1, .inl (cI, 4, .inl wd)), (g2, .inl (cI, 4, .inl hg)), (g3, .inl (cI, 576, .inl pix))] H := hP
              have hD : va_D A [(g0, .inr (9, [.ref g1, .ref g2, .ref g3, .ref g4, .ref g5, .ref g6, .ref g7, .ref g8, .ref g9, .ref g10, .ref g11, .ref g12, .ref g13, .ref g14, .ref g15, .int isz, .int 0, .int ico, .int icl, .int irw, .int ibi, .int ien, .int itr, .int ibl, .int ile, .int igr, .int ibk, .int ist, .int ibr])), (g1, .inl (cI, 4, .inl wd)), (g2, .inl (cI, 4, .inl hg)), (g3, .inl (cI, 576, .inl pix))] := hD
              refine lv_aload_n hx hb d_Model_size_45 rfl (lv_at hl 0 rfl) ?_
              refine va_get (D := D) (ci := 9) (v := .ref g1) (C := "TileForgeModel") (T := T_Model) (N := 29) hx hb hts (cs_in in_Model) hown hK hP 0 rfl rfl 0 (by decide) (hts _ (cs_m mw_348)) (fun _ h9 => h9) rfl d_Model_size_46 ?_
              refine lv_iconst (v := 0) hx hb d_Model_size_49 (by decide) ?_
              refine lv_iload_n hx hb d_Model_size_50 rfl (lv_at hl 1 rfl) ?_
              refine cs_iast (j := 0) hx hb hK hcI hP hD hS 1 rfl (rfl) (by decide) (by decide) d_Model_size_51 (fun H locs hP hD hS => ?_)
              have hP : va_P D vwCl [(g0, .inr (9, [.ref g1, .ref g2, .ref g3, .ref g4, .ref g5, .ref g6, .ref g7, .ref g8, .ref g9, .ref g10, .ref g11, .ref g12, .ref g13, .ref g14, .ref g15, .int isz, .int 0, .int ico, .int icl, .int irw, .int ibi, .int ien, .int itr, .int ibl, .int ile, .int igr, .int ibk, .int ist, .int ibr])), (g1, .inl (cI, 4, .inl (upd wd 0 wi))), (g2, .inl (cI, 4, .inl hg)), (g3, .inl (cI, 576, .inl pix))] H := hP
              have hD : va_D A [(g0, .inr (9, [.ref g1, .ref g2, .ref g3, .ref g4, .ref g5, .ref g6, .ref g7, .ref g8, .ref g9, .ref g10, .ref g11, .ref g12, .ref g13, .ref g14, .ref g15, .int isz, .int 0, .int ico, .int icl, .int irw, .int ibi, .int ien, .int itr, .int ibl, .int ile, .int igr, .int ibk, .int ist, .int ibr])), (g1, .inl (cI, 4, .inl (upd wd 0 wi))), (g2, .inl (cI, 4, .inl hg)), (g3, .inl (cI, 576, .inl pix))] := hD
              refine lv_aload_n hx hb d_Model_size_52 rfl (lv_at hl 0 rfl) ?_
              refine va_get (D := D) (ci := 9) (v := .ref g2) (C := "TileForgeModel") (T := T_Model) (N := 29) hx hb hts (cs_in in_Model) hown hK hP 0 rfl rfl 1 (by decide) (hts _ (cs_m mw_352)) (fun _ h9 => h9) rfl d_Model_size_53 ?_
              refine lv_iconst (v := 0) hx hb d_Model_size_56 (by decide) ?_
              refine lv_iload_n hx hb d_Model_size_57 rfl (lv_at hl 2 rfl) ?_
              refine cs_iast (j := 0) hx hb hK hcI hP hD hS 2 rfl (rfl) (by decide) (by decide) d_Model_size_58 (fun H locs hP hD hS => ?_)
              have hP : va_P D vwCl [(g0, .inr (9, [.ref g1, .ref g2, .ref g3, .ref g4, .ref g5, .ref g6, .ref g7, .ref g8, .ref g9, .ref g10, .ref g11, .ref g12, .ref g13, .ref g14, .ref g15, .int isz, .int 0, .int ico, .int icl, .int irw, .int ibi, .int ien, .int itr, .int ibl, .int ile, .int igr, .int ibk, .int ist, .int ibr])), (g1, .inl (cI, 4, .inl (upd wd 0 wi))), (g2, .inl (cI, 4, .inl (upd hg 0 he))), (g3, .inl (cI, 576, .inl pix))] H := hP
              have hD : va_D A [(g0, .inr (9, [.ref g1, .ref g2, .ref g3, .ref g4, .ref g5, .ref g6, .ref g7, .ref g8, .ref g9, .ref g10, .ref g11, .ref g12, .ref g13, .ref g14, .ref g15, .int isz, .int 0, .int ico, .int icl, .int irw, .int ibi, .int ien, .int itr, .int ibl, .int ile, .int igr, .int ibk, .int ist, .int ibr])), (g1, .inl (cI, 4, .inl (upd wd 0 wi))), (g2, .inl (cI, 4, .inl (upd hg 0 he))), (g3, .inl (cI, 576, .inl pix))] := hD
              refine lv_iconst (v := 0) hx hb d_Model_size_59 (by decide) ?_
              refine lv_istore_n (lv' := [(3, .int 0), (0, .ref g0), (1, .int wi), (2, .int he)]) hx hb d_Model_size_60 rfl hl (by decide) rfl (fun ls hl => ?_)
              have lp61 : ∀ (n : Nat) (k : Nat) (f : Nat → Int32), (145 ≤ k + n) → (k ≤ 144) → (f = flN pix 0 0 k) → ∀ (H : Heap) (locs : List Loc) (ls : Array Slot), va_P D vwCl [(g0, .inr (9, [.ref g1, .ref g2, .ref g3, .ref g4, .ref g5, .ref g6, .ref g7, .ref g8, .ref g9, .ref g10, .ref g11, .ref g12, .ref g13, .ref g14, .ref g15, .int isz, .int 0, .int ico, .int icl, .int irw, .int ibi, .int ien, .int itr, .int ibl, .int ile, .int igr, .int ibk, .int ist, .int ibr])), (g1, .inl (cI, 4, .inl (upd wd 0 wi))), (g2, .inl (cI, 4, .inl (upd hg 0 he))), (g3, .inl (cI, 576, .inl f))] H → va_D A [(g0, .inr (9, [.ref g1, .ref g2, .ref g3, .ref g4, .ref g5, .ref g6, .ref g7, .ref g8, .ref g9, .ref g10, .ref g11, .ref g12, .ref g13, .ref g14, .ref g15, .int isz, .int 0, .int ico, .int icl, .int irw, .int ibi, .int ien, .int itr, .int ibl, .int ile, .int igr, .int ibk, .int ist, .int ibr])), (g1, .inl (cI, 4, .inl (upd wd 0 wi))), (g2, .inl (cI, 4, .inl (upd hg 0 he))), (g3, .inl (cI, 576, .inl f))] → va_S A s.heap H locs → lv_has ls 4 [(0, .ref g0), (1, .int wi), (2, .int he), (3, .int (nI k))] → W p l e ({ frames := 0, cells := 0, slots := 0, locals := 0 } : Room) s m ([.ref g0, .int wi, .int he] : List Value).toArray below meth c H locs 0 0 (MQ below (va_Qi (q_mo_size cI g0 g1 g2 g3 g4 g5 g6 g7 g8 g9 g10 g11 g12 g13 g14 g15 isz ith ico icl irw ibi ien itr ibl ile igr ibk ist ibr wd hg pix wi he) (cs_B D vwCl tys A) A) ([.ref g0, .int wi, .int he] : List Value).toArray s 0 0 A) (F0 m 61 ls []) := by
                intro n
                induction n with
                | zero =>
                  intro k f hf hk hf2
                  exact absurd hf (by omega)
                | succ n ih61 =>
                  intro k f hf hk hf2 H locs ls hP hD hS hl
                  refine lv_iload_n hx hb d_Model_size_61 rfl (lv_at hl 3 rfl) ?_
                  refine lv_sipush (v := 144) hx hb d_Model_size_62 (by decide) ?_
                  refine lv_icmp_ge (tgt := 81) hx hb d_Model_size_65 (by decide) (fun c_65 => ?_) (fun c_65 => ?_)
                  · have hk2 := (nI_leI (a := 144) (b := k) (by decide) (by omega)).mp c_65
                    have hk3 : k = 144 := by omega
                    subst hk3
                    refine lv_iload_n hx hb d_Model_size_81 rfl (lv_at hl 1 rfl) ?_
                    refine lv_iload_n hx hb d_Model_size_82 rfl (lv_at hl 2 rfl) ?_
                    refine lv_imul hx hb d_Model_size_83 ?_
                    refine lv_bipush (v := 16) hx hb d_Model_size_84 (by decide) ?_
                    refine lv_idiv hx hb d_Model_size_86 (by decide) ?_
                    exact W.iret (v := ((wi * he) / 16)) hx hb hr (fun t ht hW => ⟨⟨((wi * he) / 16), [(g0, .inr (9, [.ref g1, .ref g2, .ref g3, .ref g4, .ref g5, .ref g6, .ref g7, .ref g8, .ref g9, .ref g10, .ref g11, .ref g12, .ref g13, .ref g14, .ref g15, .int isz, .int 0, .int ico, .int icl, .int irw, .int ibi, .int ien, .int itr, .int ibl, .int ile, .int igr, .int ibk, .int ist, .int ibr])), (g1, .inl (cI, 4, .inl (upd wd 0 wi))), (g2, .inl (cI, 4, .inl (upd hg 0 he))), (g3, .inl (cI, 576, .inl f))], rfl, ⟨(rfl), (by rw [hf2])⟩, by rw [ht]; exact hP, va_K.moved hW.alike hK, hD⟩, hS.F ht⟩) hS.2.2 d_Model_size_87
                  · have hk2 : k < 144 := Nat.not_le.mp (fun h => c_65 ((nI_leI (a := 144) (b := k) (by decide) (by omega)).mpr h))
                    refine lv_aload_n hx hb d_Model_size_68 rfl (lv_at hl 0 rfl) ?_
                    refine va_get (D := D) (ci := 9) (v := .ref g3) (C := "TileForgeModel") (T := T_Model) (N := 29) hx hb hts (cs_in in_Model) hown hK hP 0 rfl rfl 2 (by decide) (hts _ (cs_m mw_354)) (fun _ h9 => h9) rfl d_Model_size_69 ?_
                    refine lv_iload_n hx hb d_Model_size_72 rfl (lv_at hl 3 rfl) ?_
                    refine lv_iconst (v := 0) hx hb d_Model_size_73 (by decide) ?_
                    refine cs_iast (j := 0 + k) hx hb hK hcI hP hD hS 3 rfl (congrArg nI (by omega)) (by omega) (by decide) d_Model_size_74 (fun H locs hP hD hS => ?_)
                    have hP : va_P D vwCl [(g0, .inr (9, [.ref g1, .ref g2, .ref g3, .ref g4, .ref g5, .ref g6, .ref g7, .ref g8, .ref g9, .ref g10, .ref g11, .ref g12, .ref g13, .ref g14, .ref g15, .int isz, .int 0, .int ico, .int icl, .int irw, .int ibi, .int ien, .int itr, .int ibl, .int ile, .int igr, .int ibk, .int ist, .int ibr])), (g1, .inl (cI, 4, .inl (upd wd 0 wi))), (g2, .inl (cI, 4, .inl (upd hg 0 he))), (g3, .inl (cI, 576, .inl (upd f (0 + k) 0)))] H := hP
                    have hD : va_D A [(g0, .inr (9, [.ref g1, .ref g2, .ref g3, .ref g4, .ref g5, .ref g6, .ref g7, .ref g8, .ref g9, .ref g10, .ref g11, .ref g12, .ref g13, .ref g14, .ref g15, .int isz, .int 0, .int ico, .int icl, .int irw, .int ibi, .int ien, .int itr, .int ibl, .int ile, .int igr, .int ibk, .int ist, .int ibr])), (g1, .inl (cI, 4, .inl (upd wd 0 wi))), (g2, .inl (cI, 4, .inl (upd hg 0 he))), (g3, .inl (cI, 576, .inl (upd f (0 + k) 0)))] := hD
                    refine lv_iinc (v := nI (k + 1)) (lv' := [(3, .int (nI (k + 1))), (0, .ref g0), (1, .int wi), (2, .int he)]) hx hb d_Model_size_75 hl (k := 3) rfl (nI_1 _) (by decide) rfl (fun ls hl => ?_)
                    refine lv_goto (tgt := 61) hx hb d_Model_size_78 (by decide) ?_
                    exact ih61 (k + 1) (upd f (0 + k) 0) (by omega) (by omega) (by rw [hf2]; exact flN_s) _ _ _ (hP.sub (ws' := [(g0, .inr (9, [.ref g1, .ref g2, .ref g3, .ref g4, .ref g5, .ref g6, .ref g7, .ref g8, .ref g9, .ref g10, .ref g11, .ref g12, .ref g13, .ref g14, .ref g15, .int isz, .int 0, .int ico, .int icl, .int irw, .int ibi, .int ien, .int itr, .int ibl, .int ile, .int igr, .int ibk, .int ist, .int ibr])), (g1, .inl (cI, 4, .inl (upd wd 0 wi))), (g2, .inl (cI, 4, .inl (upd hg 0 he))), (g3, .inl (cI, 576, .inl (upd f (0 + k) 0)))]) [0, 1, 2, 3] rfl) (hD.sub (ws' := [(g0, .inr (9, [.ref g1, .ref g2, .ref g3, .ref g4, .ref g5, .ref g6, .ref g7, .ref g8, .ref g9, .ref g10, .ref g11, .ref g12, .ref g13, .ref g14, .ref g15, .int isz, .int 0, .int ico, .int icl, .int irw, .int ibi, .int ien, .int itr, .int ibl, .int ile, .int igr, .int ibk, .int ist, .int ibr])), (g1, .inl (cI, 4, .inl (upd wd 0 wi))), (g2, .inl (cI, 4, .inl (upd hg 0 he))), (g3, .inl (cI, 576, .inl (upd f (0 + k) 0)))]) [0, 1, 2, 3] (by decide) rfl) hS (lv_sub hl [1, 2, 3, 0] rfl)
              exact lp61 (145) 0 pix (by omega) (by omega) (flN_0.symm) _ _ _ (hP.sub (ws' := [(g0, .inr (9, [.ref g1, .ref g2, .ref g3, .ref g4, .ref g5, .ref g6, .ref g7, .ref g8, .ref g9, .ref g10, .ref g11, .ref g12, .ref g13, .ref g14, .ref g15, .int isz, .int 0, .int ico, .int icl, .int irw, .int ibi, .int ien, .int itr, .int ibl, .int ile, .int igr, .int ibk, .int ist, .int ibr])), (g1, .inl (cI, 4, .inl (upd wd 0 wi))), (g2, .inl (cI, 4, .inl (upd hg 0 he))), (g3, .inl (cI, 576, .inl pix))]) [0, 1, 2, 3] rfl) (hD.sub (ws' := [(g0, .inr (9, [.ref g1, .ref g2, .ref g3, .ref g4, .ref g5, .ref g6, .ref g7, .ref g8, .ref g9, .ref g10, .ref g11, .ref g12, .ref g13, .ref g14, .ref g15, .int isz, .int 0, .int ico, .int icl, .int irw, .int ibi, .int ien, .int itr, .int ibl, .int ile, .int igr, .int ibk, .int ist, .int ibr])), (g1, .inl (cI, 4, .inl (upd wd 0 wi))), (g2, .inl (cI, 4, .inl (upd hg 0 he))), (g3, .inl (cI, 576, .inl pix))]) [0, 1, 2, 3] (by decide) rfl) hS (lv_sub hl [1, 2, 3, 0] rfl)
            · exact absurd hsh (fun h => h.elim c_19 (fun h => h.elim c_25 c_31))
theorem mw_435 : (.methodLink "TileForgeModel" 60 ⟨"TileForgeModel", "fail", "(I)I"⟩ : Cond) ∈ GW := List.mem_filter.mpr ⟨(List.mem_append_right _ (List.mem_append_right _ (List.mem_append_right _ (List.mem_append_right _ (List.mem_of_getElem? (i := 55) rfl))))), rfl⟩
theorem mw_436 : (.instanceMethod ⟨"TileForgeModel", "fail", "(I)I"⟩ : Cond) ∈ GW := List.mem_filter.mpr ⟨(List.mem_append_right _ (List.mem_append_right _ (List.mem_append_right _ (List.mem_append_right _ (List.mem_of_getElem? (i := 57) rfl))))), rfl⟩
theorem mw_437 : (.selects "TileForgeModel" ⟨"TileForgeModel", "fail", "(I)I"⟩ ⟨"TileForgeModel", "fail", "(I)I"⟩ : Cond) ∈ GW := List.mem_filter.mpr ⟨(List.mem_append_left _ (List.mem_of_getElem? (i := 3) rfl)), rfl⟩
def q_mo_sizeB (cI : ClassId) (g0 : Nat) (g1 : Nat) (g2 : Nat) (g3 : Nat) (g4 : Nat) (g5 : Nat) (g6 : Nat) (g7 : Nat) (g8 : Nat) (g9 : Nat) (g10 : Nat) (g11 : Nat) (g12 : Nat) (g13 : Nat) (g14 : Nat) (g15 : Nat) (isz : Int32) (ith : Int32) (ico : Int32) (icl : Int32) (irw : Int32) (ibi : Int32) (ien : Int32) (itr : Int32) (ibl : Int32) (ile : Int32) (igr : Int32) (ibk : Int32) (ist : Int32) (ibr : Int32) (wi : Int32) (he : Int32) : Int32 → va_W → Prop := fun rr ww => rr = (0) ∧ ww = [(g0, .inr (9, [.ref g1, .ref g2, .ref g3, .ref g4, .ref g5, .ref g6, .ref g7, .ref g8, .ref g9, .ref g10, .ref g11, .ref g12, .ref g13, .ref g14, .ref g15, .int isz, .int 1, .int ico, .int icl, .int irw, .int ibi, .int ien, .int itr, .int ibl, .int ile, .int igr, .int ibk, .int ist, .int ibr]))]
set_option maxHeartbeats 4000000 in
set_option maxRecDepth 100000 in
theorem c_mo_sizeB (l : Launch) {D : va_G} {tys : List (ClassId × FieldType)} {cI : ClassId} (hcI : tys[0]? = some (cI, .int)) (g0 : Nat) (g1 : Nat) (g2 : Nat) (g3 : Nat) (g4 : Nat) (g5 : Nat) (g6 : Nat) (g7 : Nat) (g8 : Nat) (g9 : Nat) (g10 : Nat) (g11 : Nat) (g12 : Nat) (g13 : Nat) (g14 : Nat) (g15 : Nat) (isz : Int32) (ith : Int32) (ico : Int32) (icl : Int32) (irw : Int32) (ibi : Int32) (ien : Int32) (itr : Int32) (ibl : Int32) (ile : Int32) (igr : Int32) (ibk : Int32) (ist : Int32) (ibr : Int32) (wi : Int32) (he : Int32) (hbad : ¬ (sideP wi ∧ sideP he)) : CsI l D vwCl tys y_Model_size ws_Model_size ({ frames := 1, cells := 0, slots := 0, locals := 21 } : Room) [.ref g0, .int wi, .int he] [(g0, .inr (9, [.ref g1, .ref g2, .ref g3, .ref g4, .ref g5, .ref g6, .ref g7, .ref g8, .ref g9, .ref g10, .ref g11, .ref g12, .ref g13, .ref g14, .ref g15, .int isz, .int ith, .int ico, .int icl, .int irw, .int ibi, .int ien, .int itr, .int ibl, .int ile, .int igr, .int ibk, .int ist, .int ibr]))] (q_mo_sizeB cI g0 g1 g2 g3 g4 g5 g6 g7 g8 g9 g10 g11 g12 g13 g14 g15 isz ith ico icl irw ibi ien itr ibl ile igr ibk ist ibr wi he) 0 0 := by
  intro sz
  refine Met.ofW (cc := prog_11_method_7_code) (maxL := 4) (ret := (some .int)) (by decide) rfl ?_
  intro p e s m args below meth c s₁ B hml hv
  obtain ⟨rfl, hsz, hP, hK, hD0, hN⟩ := hv
  have hx := B.exec
  have hb := B.bytes
  have hr := B.returns
  have hts := atoms_spec (ws := ws_Model_size) B.pre
  have hown : s.vm.findClass "TileForgeModel" = some m.cls := findClass_of_methodNamed B.named
  have hlocks := B.notSynchronized
  subst hsz
  have hD := hD0.self (sz := s.heap.size)
  generalize hAe : va_A [(g0, .inr (9, [.ref g1, .ref g2, .ref g3, .ref g4, .ref g5, .ref g6, .ref g7, .ref g8, .ref g9, .ref g10, .ref g11, .ref g12, .ref g13, .ref g14, .ref g15, .int isz, .int ith, .int ico, .int icl, .int irw, .int ibi, .int ien, .int itr, .int ibl, .int ile, .int igr, .int ibk, .int ist, .int ibr]))] s.heap.size = A at hD ⊢
  have hA : ∀ q : Nat, s.heap.size ≤ q → A q := fun q h => by rw [← hAe]; exact Or.inr h
  have hS : va_S A s.heap s.heap [] := va_S.rf
  have hP : va_P D vwCl [(g0, .inr (9, [.ref g1, .ref g2, .ref g3, .ref g4, .ref g5, .ref g6, .ref g7, .ref g8, .ref g9, .ref g10, .ref g11, .ref g12, .ref g13, .ref g14, .ref g15, .int isz, .int ith, .int ico, .int icl, .int irw, .int ibi, .int ien, .int itr, .int ibl, .int ile, .int igr, .int ibk, .int ist, .int ibr]))] s.heap := hP
  have hl := lv_entry ([.ref g0, .int wi, .int he]) (n := 4) (Nat.le_of_ble_eq_true rfl)
  rw [lg_entry_eq]
  generalize (lg_sl ([.ref g0, .int wi, .int he]) ++ List.replicate (4 - (lg_sl ([.ref g0, .int wi, .int he])).length) Slot.unset).toArray = ls at hl ⊢
  have hl : lv_has ls 4 [(0, .ref g0), (1, .int wi), (2, .int he)] := hl
  refine lv_iload_n hx hb d_Model_size_0 rfl (lv_at hl 1 rfl) ?_
  refine lv_iconst (v := 4) hx hb d_Model_size_1 (by decide) ?_
  refine lv_icmp_eq (tgt := 17) hx hb d_Model_size_2 (by decide) (fun c_2 => ?_) (fun c_2 => ?_)
  · refine lv_iload_n hx hb d_Model_size_17 rfl (lv_at hl 2 rfl) ?_
    refine lv_iconst (v := 4) hx hb d_Model_size_18 (by decide) ?_
    refine lv_icmp_eq (tgt := 40) hx hb d_Model_size_19 (by decide) (fun c_19 => ?_) (fun c_19 => ?_)
    · exact absurd ⟨Or.inl c_2, Or.inl c_19⟩ hbad
    · refine lv_iload_n hx hb d_Model_size_22 rfl (lv_at hl 2 rfl) ?_
      refine lv_bipush (v := 8) hx hb d_Model_size_23 (by decide) ?_
      refine lv_icmp_eq (tgt := 40) hx hb d_Model_size_25 (by decide) (fun c_25 => ?_) (fun c_25 => ?_)
      · exact absurd ⟨Or.inl c_2, Or.inr (Or.inl c_25)⟩ hbad
      · refine lv_iload_n hx hb d_Model_size_28 rfl (lv_at hl 2 rfl) ?_
        refine lv_bipush (v := 12) hx hb d_Model_size_29 (by decide) ?_
        refine lv_icmp_eq (tgt := 40) hx hb d_Model_size_31 (by decide) (fun c_31 => ?_) (fun c_31 => ?_)
        · exact absurd ⟨Or.inl c_2, Or.inr (Or.inr c_31)⟩ hbad
        · refine lv_aload_n hx hb d_Model_size_34 rfl (lv_at hl 0 rfl) ?_
          refine lv_iconst (v := 1) hx hb d_Model_size_35 (by decide) ?_
          refine cs_Vi (As := [.int 1]) (rest := []) (wr := []) ⟨hx, hb, hml, hown, hts⟩ (c_mo_fail l hcI g0 g1 g2 g3 g4 g5 g6 g7 g8 g9 g10 g11 g12 g13 g14 g15 isz ith ico icl irw ibi ien itr ibl ile igr ibk ist ibr 1) (cwV 1 hts (cs_gV mw_435 mw_436 mw_437 mw_349 mw_342) rfl rfl rfl ⟨rfl, hd_Model_fail⟩ ⟨Nat.le_of_ble_eq_true rfl, Nat.le_of_ble_eq_true rfl⟩) hN hK hP hD hS hA [0] [] rfl rfl rfl rfl (by decide) (ci := 9) rfl rfl rfl rfl rfl hl.1 (Nat.le_of_ble_eq_true rfl) d_Model_size_36 ⟨Nat.le_of_ble_eq_true rfl, Nat.le_of_ble_eq_true rfl⟩ (fun r1 w1 H locs hw hP hD hS => ?_)
          obtain ⟨rfl, rfl⟩ := hw
          have hP : va_P D vwCl [(g0, .inr (9, [.ref g1, .ref g2, .ref g3, .ref g4, .ref g5, .ref g6, .ref g7, .ref g8, .ref g9, .ref g10, .ref g11, .ref g12, .ref g13, .ref g14, .ref g15, .int isz, .int 1, .int ico, .int icl, .int irw, .int ibi, .int ien, .int itr, .int ibl, .int ile, .int igr, .int ibk, .int ist, .int ibr]))] H := hP
          have hD : va_D A [(g0, .inr (9, [.ref g1, .ref g2, .ref g3, .ref g4, .ref g5, .ref g6, .ref g7, .ref g8, .ref g9, .ref g10, .ref g11, .ref g12, .ref g13, .ref g14, .ref g15, .int isz, .int 1, .int ico, .int icl, .int irw, .int ibi, .int ien, .int itr, .int ibl, .int ile, .int igr, .int ibk, .int ist, .int ibr]))] := hD
          exact W.iret (v := 0) hx hb hr (fun t ht hW => ⟨⟨0, [(g0, .inr (9, [.ref g1, .ref g2, .ref g3, .ref g4, .ref g5, .ref g6, .ref g7, .ref g8, .ref g9, .ref g10, .ref g11, .ref g12, .ref g13, .ref g14, .ref g15, .int isz, .int 1, .int ico, .int icl, .int irw, .int ibi, .int ien, .int itr, .int ibl, .int ile, .int igr, .int ibk, .int ist, .int ibr]))], rfl, ⟨(rfl), (rfl)⟩, by rw [ht]; exact hP, va_K.moved hW.alike hK, hD⟩, hS.F ht⟩) hS.2.2 d_Model_size_39
  · refine lv_iload_n hx hb d_Model_size_5 rfl (lv_at hl 1 rfl) ?_
    refine lv_bipush (v := 8) hx hb d_Model_size_6 (by decide) ?_
    refine lv_icmp_eq (tgt := 17) hx hb d_Model_size_8 (by decide) (fun c_8 => ?_) (fun c_8 => ?_)
    · refine lv_iload_n hx hb d_Model_size_17 rfl (lv_at hl 2 rfl) ?_
      refine lv_iconst (v := 4) hx hb d_Model_size_18 (by decide) ?_
      refine lv_icmp_eq (tgt := 40) hx hb d_Model_size_19 (by decide) (fun c_19 => ?_) (fun c_19 => ?_)
      · exact absurd ⟨Or.inr (Or.inl c_8), Or.inl c_19⟩ hbad
      · refine lv_iload_n hx hb d_Model_size_22 rfl (lv_at hl 2 rfl) ?_
        refine lv_bipush (v := 8) hx hb d_Model_size_23 (by decide) ?_
        refine lv_icmp_eq (tgt := 40) hx hb d_Model_size_25 (by decide) (fun c_25 => ?_) (fun c_25 => ?_)
        · exact absurd ⟨Or.inr (Or.inl c_8), Or.inr (Or.inl c_25)⟩ hbad
        · refine lv_iload_n hx hb d_Model_size_28 rfl (lv_at hl 2 rfl) ?_
          refine lv_bipush (v := 12) hx hb d_Model_size_29 (by decide) ?_
          refine lv_icmp_eq (tgt := 40) hx hb d_Model_size_31 (by decide) (fun c_31 => ?_) (fun c_31 => ?_)
          · exact absurd ⟨Or.inr (Or.inl c_8), Or.inr (Or.inr c_31)⟩ hbad
          · refine lv_aload_n hx hb d_Model_size_34 rfl (lv_at hl 0 rfl) ?_
            refine lv_iconst (v := 1) hx hb d_Model_size_35 (by decide) ?_
            refine cs_Vi (As := [.int 1]) (rest := []) (wr := []) ⟨hx, hb, hml, hown, hts⟩ (c_mo_fail l hcI g0 g1 g2 g3 g4 g5 g6 g7 g8 g9 g10 g11 g12 g13 g14 g15 isz ith ico icl irw ibi ien itr ibl ile igr ibk ist ibr 1) (cwV 1 hts (cs_gV mw_435 mw_436 mw_437 mw_349 mw_342) rfl rfl rfl ⟨rfl, hd_Model_fail⟩ ⟨Nat.le_of_ble_eq_true rfl, Nat.le_of_ble_eq_true rfl⟩) hN hK hP hD hS hA [0] [] rfl rfl rfl rfl (by decide) (ci := 9) rfl rfl rfl rfl rfl hl.1 (Nat.le_of_ble_eq_true rfl) d_Model_size_36 ⟨Nat.le_of_ble_eq_true rfl, Nat.le_of_ble_eq_true rfl⟩ (fun r2 w1 H locs hw hP hD hS => ?_)
            obtain ⟨rfl, rfl⟩ := hw
            have hP : va_P D vwCl [(g0, .inr (9, [.ref g1, .ref g2, .ref g3, .ref g4, .ref g5, .ref g6, .ref g7, .ref g8, .ref g9, .ref g10, .ref g11, .ref g12, .ref g13, .ref g14, .ref g15, .int isz, .int 1, .int ico, .int icl, .int irw, .int ibi, .int ien, .int itr, .int ibl, .int ile, .int igr, .int ibk, .int ist, .int ibr]))] H := hP
            have hD : va_D A [(g0, .inr (9, [.ref g1, .ref g2, .ref g3, .ref g4, .ref g5, .ref g6, .ref g7, .ref g8, .ref g9, .ref g10, .ref g11, .ref g12, .ref g13, .ref g14, .ref g15, .int isz, .int 1, .int ico, .int icl, .int irw, .int ibi, .int ien, .int itr, .int ibl, .int ile, .int igr, .int ibk, .int ist, .int ibr]))] := hD
            exact W.iret (v := 0) hx hb hr (fun t ht hW => ⟨⟨0, [(g0, .inr (9, [.ref g1, .ref g2, .ref g3, .ref g4, .ref g5, .ref g6, .ref g7, .ref g8, .ref g9, .ref g10, .ref g11, .ref g12, .ref g13, .ref g14, .ref g15, .int isz, .int 1, .int ico, .int icl, .int irw, .int ibi, .int ien, .int itr, .int ibl, .int ile, .int igr, .int ibk, .int ist, .int ibr]))], rfl, ⟨(rfl), (rfl)⟩, by rw [ht]; exact hP, va_K.moved hW.alike hK, hD⟩, hS.F ht⟩) hS.2.2 d_Model_size_39
    · refine lv_iload_n hx hb d_Model_size_11 rfl (lv_at hl 1 rfl) ?_
      refine lv_bipush (v := 12) hx hb d_Model_size_12 (by decide) ?_
      refine lv_icmp_ne (tgt := 34) hx hb d_Model_size_14 (by decide) (fun c_14 => ?_) (fun c_14 => ?_)
      · refine lv_aload_n hx hb d_Model_size_34 rfl (lv_at hl 0 rfl) ?_
        refine lv_iconst (v := 1) hx hb d_Model_size_35 (by decide) ?_
        refine cs_Vi (As := [.int 1]) (rest := []) (wr := []) ⟨hx, hb, hml, hown, hts⟩ (c_mo_fail l hcI g0 g1 g2 g3 g4 g5 g6 g7 g8 g9 g10 g11 g12 g13 g14 g15 isz ith ico icl irw ibi ien itr ibl ile igr ibk ist ibr 1) (cwV 1 hts (cs_gV mw_435 mw_436 mw_437 mw_349 mw_342) rfl rfl rfl ⟨rfl, hd_Model_fail⟩ ⟨Nat.le_of_ble_eq_true rfl, Nat.le_of_ble_eq_true rfl⟩) hN hK hP hD hS hA [0] [] rfl rfl rfl rfl (by decide) (ci := 9) rfl rfl rfl rfl rfl hl.1 (Nat.le_of_ble_eq_true rfl) d_Model_size_36 ⟨Nat.le_of_ble_eq_true rfl, Nat.le_of_ble_eq_true rfl⟩ (fun r3 w1 H locs hw hP hD hS => ?_)
        obtain ⟨rfl, rfl⟩ := hw
        have hP : va_P D vwCl [(g0, .inr (9, [.ref g1, .ref g2, .ref g3, .ref g4, .ref g5, .ref g6, .ref g7, .ref g8, .ref g9, .ref g10, .ref g11, .ref g12, .ref g13, .ref g14, .ref g15, .int isz, .int 1, .int ico, .int icl, .int irw, .int ibi, .int ien, .int itr, .int ibl, .int ile, .int igr, .int ibk, .int ist, .int ibr]))] H := hP
        have hD : va_D A [(g0, .inr (9, [.ref g1, .ref g2, .ref g3, .ref g4, .ref g5, .ref g6, .ref g7, .ref g8, .ref g9, .ref g10, .ref g11, .ref g12, .ref g13, .ref g14, .ref g15, .int isz, .int 1, .int ico, .int icl, .int irw, .int ibi, .int ien, .int itr, .int ibl, .int ile, .int igr, .int ibk, .int ist, .int ibr]))] := hD
        exact W.iret (v := 0) hx hb hr (fun t ht hW => ⟨⟨0, [(g0, .inr (9, [.ref g1, .ref g2, .ref g3, .ref g4, .ref g5, .ref g6, .ref g7, .ref g8, .ref g9, .ref g10, .ref g11, .ref g12, .ref g13, .ref g14, .ref g15, .int isz, .int 1, .int ico, .int icl, .int irw, .int ibi, .int ien, .int itr, .int ibl, .int ile, .int igr, .int ibk, .int ist, .int ibr]))], rfl, ⟨(rfl), (rfl)⟩, by rw [ht]; exact hP, va_K.moved hW.alike hK, hD⟩, hS.F ht⟩) hS.2.2 d_Model_size_39
      · refine lv_iload_n hx hb d_Model_size_17 rfl (lv_at hl 2 rfl) ?_
        refine lv_iconst (v := 4) hx hb d_Model_size_18 (by decide) ?_
        refine lv_icmp_eq (tgt := 40) hx hb d_Model_size_19 (by decide) (fun c_19 => ?_) (fun c_19 => ?_)
        · exact absurd ⟨Or.inr (Or.inr c_14), Or.inl c_19⟩ hbad
        · refine lv_iload_n hx hb d_Model_size_22 rfl (lv_at hl 2 rfl) ?_
          refine lv_bipush (v := 8) hx hb d_Model_size_23 (by decide) ?_
          refine lv_icmp_eq (tgt := 40) hx hb d_Model_size_25 (by decide) (fun c_25 => ?_) (fun c_25 => ?_)
          · exact absurd ⟨Or.inr (Or.inr c_14), Or.inr (Or.inl c_25)⟩ hbad
          · refine lv_iload_n hx hb d_Model_size_28 rfl (lv_at hl 2 rfl) ?_
            refine lv_bipush (v := 12) hx hb d_Model_size_29 (by decide) ?_
            refine lv_icmp_eq (tgt := 40) hx hb d_Model_size_31 (by decide) (fun c_31 => ?_) (fun c_31 => ?_)
            · exact absurd ⟨Or.inr (Or.inr c_14), Or.inr (Or.inr c_31)⟩ hbad
            · refine lv_aload_n hx hb d_Model_size_34 rfl (lv_at hl 0 rfl) ?_
              refine lv_iconst (v := 1) hx hb d_Model_size_35 (by decide) ?_
              refine cs_Vi (As := [.int 1]) (rest := []) (wr := []) ⟨hx, hb, hml, hown, hts⟩ (c_mo_fail l hcI g0 g1 g2 g3 g4 g5 g6 g7 g8 g9 g10 g11 g12 g13 g14 g15 isz ith ico icl irw ibi ien itr ibl ile igr ibk ist ibr 1) (cwV 1 hts (cs_gV mw_435 mw_436 mw_437 mw_349 mw_342) rfl rfl rfl ⟨rfl, hd_Model_fail⟩ ⟨Nat.le_of_ble_eq_true rfl, Nat.le_of_ble_eq_true rfl⟩) hN hK hP hD hS hA [0] [] rfl rfl rfl rfl (by decide) (ci := 9) rfl rfl rfl rfl rfl hl.1 (Nat.le_of_ble_eq_true rfl) d_Model_size_36 ⟨Nat.le_of_ble_eq_true rfl, Nat.le_of_ble_eq_true rfl⟩ (fun r4 w1 H locs hw hP hD hS => ?_)
              obtain ⟨rfl, rfl⟩ := hw
              have hP : va_P D vwCl [(g0, .inr (9, [.ref g1, .ref g2, .ref g3, .ref g4, .ref g5, .ref g6, .ref g7, .ref g8, .ref g9, .ref g10, .ref g11, .ref g12, .ref g13, .ref g14, .ref g15, .int isz, .int 1, .int ico, .int icl, .int irw, .int ibi, .int ien, .int itr, .int ibl, .int ile, .int igr, .int ibk, .int ist, .int ibr]))] H := hP
              have hD : va_D A [(g0, .inr (9, [.ref g1, .ref g2, .ref g3, .ref g4, .ref g5, .ref g6, .ref g7, .ref g8, .ref g9, .ref g10, .ref g11, .ref g12, .ref g13, .ref g14, .ref g15, .int isz, .int 1, .int ico, .int icl, .int irw, .int ibi, .int ien, .int itr, .int ibl, .int ile, .int igr, .int ibk, .int ist, .int ibr]))] := hD
              exact W.iret (v := 0) hx hb hr (fun t ht hW => ⟨⟨0, [(g0, .inr (9, [.ref g1, .ref g2, .ref g3, .ref g4, .ref g5, .ref g6, .ref g7, .ref g8, .ref g9, .ref g10, .ref g11, .ref g12, .ref g13, .ref g14, .ref g15, .int isz, .int 1, .int ico, .int icl, .int irw, .int ibi, .int ien, .int itr, .int ibl, .int ile, .int igr, .int ibk, .int ist, .int ibr]))], rfl, ⟨(rfl), (rfl)⟩, by rw [ht]; exact hP, va_K.moved hW.alike hK, hD⟩, hS.F ht⟩) hS.2.2 d_Model_size_39
def y_Model_pixel : MethodName := ⟨"TileForgeModel", "pixel", "(III)I"⟩
def ws_Model_pixel : List Cond := .code y_Model_pixel prog_11_method_9_code 5 (some .int) :: GW
theorem mw_438 : (.code ⟨"TileForgeModel", "pixel", "(III)I"⟩ prog_11_method_9_code 5 (some .int) : Cond) ∈ GW := List.mem_filter.mpr ⟨(List.mem_append_right _ (List.mem_append_right _ (List.mem_append_right _ (List.mem_append_right _ (List.mem_of_getElem? (i := 62) rfl))))), rfl⟩
theorem hd_Model_pixel : y_Model_pixel.cls ≠ "java/lang/invoke/MethodHandle" ∧ y_Model_pixel.cls ≠ "java/lang/invoke/VarHandle" ∧ (parseMethodDescriptor y_Model_pixel.desc).map (fun d => d.parameters.length) = some 3 := by decide +kernel
theorem d_Model_pixel_0 : decode prog_11_method_9_code 0 = .ok (.iload_n 3, 1) := by decide +kernel
theorem d_Model_pixel_1 : decode prog_11_method_9_code 1 = .ok (.iconst 0, 1) := by decide +kernel
theorem d_Model_pixel_2 : decode prog_11_method_9_code 2 = .ok (.sipush 255, 3) := by decide +kernel
theorem d_Model_pixel_5 : decode prog_11_method_9_code 5 = .ok (.invokestatic 64, 3) := by decide +kernel
theorem d_Model_pixel_8 : decode prog_11_method_9_code 8 = .ok (.ifCond .ne 9, 3) := by decide +kernel
theorem d_Model_pixel_11 : decode prog_11_method_9_code 11 = .ok (.aload_n 0, 1) := by decide +kernel
theorem d_Model_pixel_12 : decode prog_11_method_9_code 12 = .ok (.iconst 1, 1) := by decide +kernel
theorem d_Model_pixel_13 : decode prog_11_method_9_code 13 = .ok (.invokevirtual 60, 3) := by decide +kernel
theorem d_Model_pixel_16 : decode prog_11_method_9_code 16 = .ok (.ireturn, 1) := by decide +kernel
theorem d_Model_pixel_17 : decode prog_11_method_9_code 17 = .ok (.aload_n 0, 1) := by decide +kernel
theorem d_Model_pixel_18 : decode prog_11_method_9_code 18 = .ok (.iconst 0, 1) := by decide +kernel
theorem d_Model_pixel_19 : decode prog_11_method_9_code 19 = .ok (.iload_n 1, 1) := by decide +kernel
theorem d_Model_pixel_20 : decode prog_11_method_9_code 20 = .ok (.iload_n 2, 1) := by decide +kernel
theorem d_Model_pixel_21 : decode prog_11_method_9_code 21 = .ok (.invokevirtual 68, 3) := by decide +kernel
theorem d_Model_pixel_24 : decode prog_11_method_9_code 24 = .ok (.ifCond .ne 9, 3) := by decide +kernel
theorem d_Model_pixel_27 : decode prog_11_method_9_code 27 = .ok (.aload_n 0, 1) := by decide +kernel
theorem d_Model_pixel_28 : decode prog_11_method_9_code 28 = .ok (.iconst 2, 1) := by decide +kernel
theorem d_Model_pixel_29 : decode prog_11_method_9_code 29 = .ok (.invokevirtual 60, 3) := by decide +kernel
theorem d_Model_pixel_32 : decode prog_11_method_9_code 32 = .ok (.ireturn, 1) := by decide +kernel
theorem d_Model_pixel_33 : decode prog_11_method_9_code 33 = .ok (.aload_n 0, 1) := by decide +kernel
theorem d_Model_pixel_34 : decode prog_11_method_9_code 34 = .ok (.iconst 0, 1) := by decide +kernel
theorem d_Model_pixel_35 : decode prog_11_method_9_code 35 = .ok (.putfield 56, 3) := by decide +kernel
theorem d_Model_pixel_38 : decode prog_11_method_9_code 38 = .ok (.aload_n 0, 1) := by decide +kernel
theorem d_Model_pixel_39 : decode prog_11_method_9_code 39 = .ok (.getfield 16, 3) := by decide +kernel
theorem d_Model_pixel_42 : decode prog_11_method_9_code 42 = .ok (.iconst 0, 1) := by decide +kernel
theorem d_Model_pixel_43 : decode prog_11_method_9_code 43 = .ok (.iload_n 1, 1) := by decide +kernel
theorem d_Model_pixel_44 : decode prog_11_method_9_code 44 = .ok (.iload_n 2, 1) := by decide +kernel
theorem d_Model_pixel_45 : decode prog_11_method_9_code 45 = .ok (.invokestatic 71, 3) := by decide +kernel
theorem d_Model_pixel_48 : decode prog_11_method_9_code 48 = .ok (.iaload, 1) := by decide +kernel
theorem d_Model_pixel_49 : decode prog_11_method_9_code 49 = .ok (.istore 4, 2) := by decide +kernel
theorem d_Model_pixel_51 : decode prog_11_method_9_code 51 = .ok (.aload_n 0, 1) := by decide +kernel
theorem d_Model_pixel_52 : decode prog_11_method_9_code 52 = .ok (.getfield 16, 3) := by decide +kernel
theorem d_Model_pixel_55 : decode prog_11_method_9_code 55 = .ok (.iconst 0, 1) := by decide +kernel
theorem d_Model_pixel_56 : decode prog_11_method_9_code 56 = .ok (.iload_n 1, 1) := by decide +kernel
theorem d_Model_pixel_57 : decode prog_11_method_9_code 57 = .ok (.iload_n 2, 1) := by decide +kernel
theorem d_Model_pixel_58 : decode prog_11_method_9_code 58 = .ok (.invokestatic 71, 3) := by decide +kernel
theorem d_Model_pixel_61 : decode prog_11_method_9_code 61 = .ok (.iload_n 3, 1) := by decide +kernel
theorem d_Model_pixel_62 : decode prog_11_method_9_code 62 = .ok (.iastore, 1) := by decide +kernel
theorem d_Model_pixel_63 : decode prog_11_method_9_code 63 = .ok (.iload 4, 2) := by decide +kernel
theorem d_Model_pixel_65 : decode prog_11_method_9_code 65 = .ok (.ireturn, 1) := by decide +kernel
theorem mw_439 : (.methodLink "TileForgeModel" 68 ⟨"TileForgeModel", "isIn", "(III)Z"⟩ : Cond) ∈ GW := List.mem_filter.mpr ⟨(List.mem_append_right _ (List.mem_append_right _ (List.mem_append_right _ (List.mem_append_right _ (List.mem_of_getElem? (i := 66) rfl))))), rfl⟩
theorem mw_440 : (.instanceMethod ⟨"TileForgeModel", "isIn", "(III)Z"⟩ : Cond) ∈ GW := List.mem_filter.mpr ⟨(List.mem_append_right _ (List.mem_append_right _ (List.mem_append_right _ (List.mem_append_right _ (List.mem_of_getElem? (i := 68) rfl))))), rfl⟩
theorem mw_441 : (.selects "TileForgeModel" ⟨"TileForgeModel", "isIn", "(III)Z"⟩ ⟨"TileForgeModel", "isIn", "(III)Z"⟩ : Cond) ∈ GW := List.mem_filter.mpr ⟨(List.mem_append_left _ (List.mem_of_getElem? (i := 4) rfl)), rfl⟩
def q_mo_pixel (cI : ClassId) (g0 : Nat) (g1 : Nat) (g2 : Nat) (g3 : Nat) (g4 : Nat) (g5 : Nat) (g6 : Nat) (g7 : Nat) (g8 : Nat) (g9 : Nat) (g10 : Nat) (g11 : Nat) (g12 : Nat) (g13 : Nat) (g14 : Nat) (g15 : Nat) (isz : Int32) (ith : Int32) (ico : Int32) (icl : Int32) (irw : Int32) (ibi : Int32) (ien : Int32) (itr : Int32) (ibl : Int32) (ile : Int32) (igr : Int32) (ibk : Int32) (ist : Int32) (ibr : Int32) (wd : Nat → Int32) (hg : Nat → Int32) (pix : Nat → Int32) (x : Nat) (y : Nat) (pw : Nat) (ph : Nat) (v : Int32) : Int32 → va_W → Prop := fun rr ww => rr = (pix (y * 12 + x)) ∧ ww = [(g0, .inr (9, [.ref g1, .ref g2, .ref g3, .ref g4, .ref g5, .ref g6, .ref g7, .ref g8, .ref g9, .ref g10, .ref g11, .ref g12, .ref g13, .ref g14, .ref g15, .int isz, .int 0, .int ico, .int icl, .int irw, .int ibi, .int ien, .int itr, .int ibl, .int ile, .int igr, .int ibk, .int ist, .int ibr])), (g1, .inl (cI, 4, .inl wd)), (g2, .inl (cI, 4, .inl hg)), (g3, .inl (cI, 576, .inl (upd pix (y * 12 + x) v)))]
set_option maxHeartbeats 4000000 in
set_option maxRecDepth 100000 in
theorem c_mo_pixel (l : Launch) {D : va_G} {tys : List (ClassId × FieldType)} {cI : ClassId} (hcI : tys[0]? = some (cI, .int)) (g0 : Nat) (g1 : Nat) (g2 : Nat) (g3 : Nat) (g4 : Nat) (g5 : Nat) (g6 : Nat) (g7 : Nat) (g8 : Nat) (g9 : Nat) (g10 : Nat) (g11 : Nat) (g12 : Nat) (g13 : Nat) (g14 : Nat) (g15 : Nat) (isz : Int32) (ith : Int32) (ico : Int32) (icl : Int32) (irw : Int32) (ibi : Int32) (ien : Int32) (itr : Int32) (ibl : Int32) (ile : Int32) (igr : Int32) (ibk : Int32) (ist : Int32) (ibr : Int32) (wd : Nat → Int32) (hg : Nat → Int32) (pix : Nat → Int32) (x : Nat) (y : Nat) (pw : Nat) (ph : Nat) (v : Int32) (hvv : ¬ v < 0 ∧ ¬ 255 < v) (hwd : wd 0 = nI pw) (hhg : hg 0 = nI ph) (hx1 : x < pw) (hy1 : y < ph) (hpw : pw ≤ 12) (hph : ph ≤ 12) : CsI l D vwCl tys y_Model_pixel ws_Model_pixel ({ frames := 2, cells := 0, slots := 0, locals := 45 } : Room) [.ref g0, .int (nI x), .int (nI y), .int v] [(g0, .inr (9, [.ref g1, .ref g2, .ref g3, .ref g4, .ref g5, .ref g6, .ref g7, .ref g8, .ref g9, .ref g10, .ref g11, .ref g12, .ref g13, .ref g14, .ref g15, .int isz, .int ith, .int ico, .int icl, .int irw, .int ibi, .int ien, .int itr, .int ibl, .int ile, .int igr, .int ibk, .int ist, .int ibr])), (g1, .inl (cI, 4, .inl wd)), (g2, .inl (cI, 4, .inl hg)), (g3, .inl (cI, 576, .inl pix))] (q_mo_pixel cI g0 g1 g2 g3 g4 g5 g6 g7 g8 g9 g10 g11 g12 g13 g14 g15 isz ith ico icl irw ibi ien itr ibl ile igr ibk ist ibr wd hg pix x y pw ph v) 0 0 := by
  intro sz
  refine Met.ofW (cc := prog_11_method_9_code) (maxL := 5) (ret := (some .int)) (by decide) rfl ?_
  intro p e s m args below meth c s₁ B hml hv
  obtain ⟨rfl, hsz, hP, hK, hD0, hN⟩ := hv
  have hx := B.exec
  have hb := B.bytes
  have hr := B.returns
  have hts := atoms_spec (ws := ws_Model_pixel) B.pre
  have hown : s.vm.findClass "TileForgeModel" = some m.cls := findClass_of_methodNamed B.named
  have hlocks := B.notSynchronized
  subst hsz
  have hD := hD0.self (sz := s.heap.size)
  generalize hAe : va_A [(g0, .inr (9, [.ref g1, .ref g2, .ref g3, .ref g4, .ref g5, .ref g6, .ref g7, .ref g8, .ref g9, .ref g10, .ref g11, .ref g12, .ref g13, .ref g14, .ref g15, .int isz, .int ith, .int ico, .int icl, .int irw, .int ibi, .int ien, .int itr, .int ibl, .int ile, .int igr, .int ibk, .int ist, .int ibr])), (g1, .inl (cI, 4, .inl wd)), (g2, .inl (cI, 4, .inl hg)), (g3, .inl (cI, 576, .inl pix))] s.heap.size = A at hD ⊢
  have hA : ∀ q : Nat, s.heap.size ≤ q → A q := fun q h => by rw [← hAe]; exact Or.inr h
  have hS : va_S A s.heap s.heap [] := va_S.rf
  have hP : va_P D vwCl [(g0, .inr (9, [.ref g1, .ref g2, .ref g3, .ref g4, .ref g5, .ref g6, .ref g7, .ref g8, .ref g9, .ref g10, .ref g11, .ref g12, .ref g13, .ref g14, .ref g15, .int isz, .int ith, .int ico, .int icl, .int irw, .int ibi, .int ien, .int itr, .int ibl, .int ile, .int igr, .int ibk, .int ist, .int ibr])), (g1, .inl (cI, 4, .inl wd)), (g2, .inl (cI, 4, .inl hg)), (g3, .inl (cI, 576, .inl pix))] s.heap := hP
  have hl := lv_entry ([.ref g0, .int (nI x), .int (nI y), .int v]) (n := 5) (Nat.le_of_ble_eq_true rfl)
  rw [lg_entry_eq]
  generalize (lg_sl ([.ref g0, .int (nI x), .int (nI y), .int v]) ++ List.replicate (5 - (lg_sl ([.ref g0, .int (nI x), .int (nI y), .int v])).length) Slot.unset).toArray = ls at hl ⊢
  have hl : lv_has ls 5 [(0, .ref g0), (1, .int (nI x)), (2, .int (nI y)), (3, .int v)] := hl
  refine lv_iload_n hx hb d_Model_pixel_0 rfl (lv_at hl 3 rfl) ?_
  refine lv_iconst (v := 0) hx hb d_Model_pixel_1 (by decide) ?_
  refine lv_sipush (v := 255) hx hb d_Model_pixel_2 (by decide) ?_
  refine cs_Si (As := [.int v, .int 0, .int 255]) (rest := []) (wr := [(g0, .inr (9, [.ref g1, .ref g2, .ref g3, .ref g4, .ref g5, .ref g6, .ref g7, .ref g8, .ref g9, .ref g10, .ref g11, .ref g12, .ref g13, .ref g14, .ref g15, .int isz, .int ith, .int ico, .int icl, .int irw, .int ibi, .int ien, .int itr, .int ibl, .int ile, .int igr, .int ibk, .int ist, .int ibr])), (g1, .inl (cI, 4, .inl wd)), (g2, .inl (cI, 4, .inl hg)), (g3, .inl (cI, 576, .inl pix))]) ⟨hx, hb, hml, hown, hts⟩ (c_mo_in l hcI v 0 255) (va_cwS 3 hts (cs_gS mw_350 mw_351 mw_349 mw_341) rfl rfl rfl hd_Model_in ⟨Nat.le_of_ble_eq_true rfl, Nat.le_of_ble_eq_true rfl⟩) hN hK hP hD hS hA [] [0, 1, 2, 3] rfl rfl rfl rfl (by decide) rfl rfl hl.1 (Nat.le_of_ble_eq_true rfl) d_Model_pixel_5 ⟨Nat.le_of_ble_eq_true rfl, Nat.le_of_ble_eq_true rfl⟩ (fun r1 w1 H locs hw hP hD hS => ?_)
  obtain ⟨rfl, rfl⟩ := hw
  have hP : va_P D vwCl [(g0, .inr (9, [.ref g1, .ref g2, .ref g3, .ref g4, .ref g5, .ref g6, .ref g7, .ref g8, .ref g9, .ref g10, .ref g11, .ref g12, .ref g13, .ref g14, .ref g15, .int isz, .int ith, .int ico, .int icl, .int irw, .int ibi, .int ien, .int itr, .int ibl, .int ile, .int igr, .int ibk, .int ist, .int ibr])), (g1, .inl (cI, 4, .inl wd)), (g2, .inl (cI, 4, .inl hg)), (g3, .inl (cI, 576, .inl pix))] H := hP
  have hD : va_D A [(g0, .inr (9, [.ref g1, .ref g2, .ref g3, .ref g4, .ref g5, .ref g6, .ref g7, .ref g8, .ref g9, .ref g10, .ref g11, .ref g12, .ref g13, .ref g14, .ref g15, .int isz, .int ith, .int ico, .int icl, .int irw, .int ibi, .int ien, .int itr, .int ibl, .int ile, .int igr, .int ibk, .int ist, .int ibr])), (g1, .inl (cI, 4, .inl wd)), (g2, .inl (cI, 4, .inl hg)), (g3, .inl (cI, 576, .inl pix))] := hD
  refine lv_if_ne (tgt := 17) hx hb d_Model_pixel_8 (by decide) (fun c_8 => ?_) (fun c_8 => ?_)
  · have c_8 := cs_b1 c_8
    refine lv_aload_n hx hb d_Model_pixel_17 rfl (lv_at hl 0 rfl) ?_
    refine lv_iconst (v := 0) hx hb d_Model_pixel_18 (by decide) ?_
    refine lv_iload_n hx hb d_Model_pixel_19 rfl (lv_at hl 1 rfl) ?_
    refine lv_iload_n hx hb d_Model_pixel_20 rfl (lv_at hl 2 rfl) ?_
    refine cs_Vi (As := [.int 0, .int (nI x), .int (nI y)]) (rest := []) (wr := [(g3, .inl (cI, 576, .inl pix))]) ⟨hx, hb, hml, hown, hts⟩ (c_mo_isIn l hcI g0 g1 g2 g3 g4 g5 g6 g7 g8 g9 g10 g11 g12 g13 g14 g15 isz ith ico icl irw ibi ien itr ibl ile igr ibk ist ibr wd hg 0 (nI x) (nI y) (by decide)) (cwV 3 hts (cs_gV mw_439 mw_440 mw_441 mw_349 mw_347) rfl rfl rfl ⟨rfl, hd_Model_isIn⟩ ⟨Nat.le_of_ble_eq_true rfl, Nat.le_of_ble_eq_true rfl⟩) hN hK hP hD hS hA [0, 1, 2] [3] rfl rfl rfl rfl (by decide) (ci := 9) rfl rfl rfl rfl rfl hl.1 (Nat.le_of_ble_eq_true rfl) d_Model_pixel_21 ⟨Nat.le_of_ble_eq_true rfl, Nat.le_of_ble_eq_true rfl⟩ (fun r2 w1 H locs hw hP hD hS => ?_)
    obtain ⟨rfl, rfl⟩ := hw
    have hP : va_P D vwCl [(g3, .inl (cI, 576, .inl pix)), (g0, .inr (9, [.ref g1, .ref g2, .ref g3, .ref g4, .ref g5, .ref g6, .ref g7, .ref g8, .ref g9, .ref g10, .ref g11, .ref g12, .ref g13, .ref g14, .ref g15, .int isz, .int ith, .int ico, .int icl, .int irw, .int ibi, .int ien, .int itr, .int ibl, .int ile, .int igr, .int ibk, .int ist, .int ibr])), (g1, .inl (cI, 4, .inl wd)), (g2, .inl (cI, 4, .inl hg))] H := hP
    have hD : va_D A [(g3, .inl (cI, 576, .inl pix)), (g0, .inr (9, [.ref g1, .ref g2, .ref g3, .ref g4, .ref g5, .ref g6, .ref g7, .ref g8, .ref g9, .ref g10, .ref g11, .ref g12, .ref g13, .ref g14, .ref g15, .int isz, .int ith, .int ico, .int icl, .int irw, .int ibi, .int ien, .int itr, .int ibl, .int ile, .int igr, .int ibk, .int ist, .int ibr])), (g1, .inl (cI, 4, .inl wd)), (g2, .inl (cI, 4, .inl hg))] := hD
    refine lv_if_ne (tgt := 33) hx hb d_Model_pixel_24 (by decide) (fun c_24 => ?_) (fun c_24 => ?_)
    · have c_24 := cs_b1 c_24
      refine lv_aload_n hx hb d_Model_pixel_33 rfl (lv_at hl 0 rfl) ?_
      refine lv_iconst (v := 0) hx hb d_Model_pixel_34 (by decide) ?_
      refine va_put (D := D) (ci := 9) (v := .int 0) (ty := .int) (C := "TileForgeModel") (T := T_Model) (N := 29) hx hb hts (cs_in in_Model) ty_Model tok_Model nm_Model hown hK hP hD hS 1 rfl rfl 16 (by decide) (hts _ (cs_m mw_343)) (fun _ h9 => h9) rfl (by decide +kernel) rfl rfl (Nat.le_of_ble_eq_true rfl) d_Model_pixel_35 (fun H locs hP hD hS => ?_)
      have hP : va_P D vwCl [(g3, .inl (cI, 576, .inl pix)), (g0, .inr (9, [.ref g1, .ref g2, .ref g3, .ref g4, .ref g5, .ref g6, .ref g7, .ref g8, .ref g9, .ref g10, .ref g11, .ref g12, .ref g13, .ref g14, .ref g15, .int isz, .int 0, .int ico, .int icl, .int irw, .int ibi, .int ien, .int itr, .int ibl, .int ile, .int igr, .int ibk, .int ist, .int ibr])), (g1, .inl (cI, 4, .inl wd)), (g2, .inl (cI, 4, .inl hg))] H := hP
      have hD : va_D A [(g3, .inl (cI, 576, .inl pix)), (g0, .inr (9, [.ref g1, .ref g2, .ref g3, .ref g4, .ref g5, .ref g6, .ref g7, .ref g8, .ref g9, .ref g10, .ref g11, .ref g12, .ref g13, .ref g14, .ref g15, .int isz, .int 0, .int ico, .int icl, .int irw, .int ibi, .int ien, .int itr, .int ibl, .int ile, .int igr, .int ibk, .int ist, .int ibr])), (g1, .inl (cI, 4, .inl wd)), (g2, .inl (cI, 4, .inl hg))] := hD
      refine lv_aload_n hx hb d_Model_pixel_38 rfl (lv_at hl 0 rfl) ?_
      refine va_get (D := D) (ci := 9) (v := .ref g3) (C := "TileForgeModel") (T := T_Model) (N := 29) hx hb hts (cs_in in_Model) hown hK hP 1 rfl rfl 2 (by decide) (hts _ (cs_m mw_354)) (fun _ h9 => h9) rfl d_Model_pixel_39 ?_
      refine lv_iconst (v := 0) hx hb d_Model_pixel_42 (by decide) ?_
      refine lv_iload_n hx hb d_Model_pixel_43 rfl (lv_at hl 1 rfl) ?_
      refine lv_iload_n hx hb d_Model_pixel_44 rfl (lv_at hl 2 rfl) ?_
      refine cs_Si (As := [.int 0, .int (nI x), .int (nI y)]) (rest := [.ref g3]) (wr := [(g3, .inl (cI, 576, .inl pix)), (g0, .inr (9, [.ref g1, .ref g2, .ref g3, .ref g4, .ref g5, .ref g6, .ref g7, .ref g8, .ref g9, .ref g10, .ref g11, .ref g12, .ref g13, .ref g14, .ref g15, .int isz, .int 0, .int ico, .int icl, .int irw, .int ibi, .int ien, .int itr, .int ibl, .int ile, .int igr, .int ibk, .int ist, .int ibr])), (g1, .inl (cI, 4, .inl wd)), (g2, .inl (cI, 4, .inl hg))]) ⟨hx, hb, hml, hown, hts⟩ (c_mo_at l hcI 0 x y) (va_cwS 3 hts (cs_gS mw_355 mw_356 mw_349 mw_346) rfl rfl rfl hd_Model_at ⟨Nat.le_of_ble_eq_true rfl, Nat.le_of_ble_eq_true rfl⟩) hN hK hP hD hS hA [] [0, 1, 2, 3] rfl rfl rfl rfl (by decide) rfl rfl hl.1 (Nat.le_of_ble_eq_true rfl) d_Model_pixel_45 ⟨Nat.le_of_ble_eq_true rfl, Nat.le_of_ble_eq_true rfl⟩ (fun r3 w1 H locs hw hP hD hS => ?_)
      obtain ⟨rfl, rfl⟩ := hw
      have hP : va_P D vwCl [(g3, .inl (cI, 576, .inl pix)), (g0, .inr (9, [.ref g1, .ref g2, .ref g3, .ref g4, .ref g5, .ref g6, .ref g7, .ref g8, .ref g9, .ref g10, .ref g11, .ref g12, .ref g13, .ref g14, .ref g15, .int isz, .int 0, .int ico, .int icl, .int irw, .int ibi, .int ien, .int itr, .int ibl, .int ile, .int igr, .int ibk, .int ist, .int ibr])), (g1, .inl (cI, 4, .inl wd)), (g2, .inl (cI, 4, .inl hg))] H := hP
      have hD : va_D A [(g3, .inl (cI, 576, .inl pix)), (g0, .inr (9, [.ref g1, .ref g2, .ref g3, .ref g4, .ref g5, .ref g6, .ref g7, .ref g8, .ref g9, .ref g10, .ref g11, .ref g12, .ref g13, .ref g14, .ref g15, .int isz, .int 0, .int ico, .int icl, .int irw, .int ibi, .int ien, .int itr, .int ibl, .int ile, .int igr, .int ibk, .int ist, .int ibr])), (g1, .inl (cI, 4, .inl wd)), (g2, .inl (cI, 4, .inl hg))] := hD
      refine cs_iald (j := y * 12 + x) hx hb hK hcI hP 0 rfl (congrArg nI (by omega)) (by omega) (by decide) d_Model_pixel_48 ?_
      refine lv_istore (lv' := [(4, .int (pix (y * 12 + x))), (0, .ref g0), (1, .int (nI x)), (2, .int (nI y)), (3, .int v)]) hx hb d_Model_pixel_49 hl (by decide) rfl (fun ls hl => ?_)
      refine lv_aload_n hx hb d_Model_pixel_51 rfl (lv_at hl 1 rfl) ?_
      refine va_get (D := D) (ci := 9) (v := .ref g3) (C := "TileForgeModel") (T := T_Model) (N := 29) hx hb hts (cs_in in_Model) hown hK hP 1 rfl rfl 2 (by decide) (hts _ (cs_m mw_354)) (fun _ h9 => h9) rfl d_Model_pixel_52 ?_
      refine lv_iconst (v := 0) hx hb d_Model_pixel_55 (by decide) ?_
      refine lv_iload_n hx hb d_Model_pixel_56 rfl (lv_at hl 2 rfl) ?_
      refine lv_iload_n hx hb d_Model_pixel_57 rfl (lv_at hl 3 rfl) ?_
      refine cs_Si (As := [.int 0, .int (nI x), .int (nI y)]) (rest := [.ref g3]) (wr := [(g3, .inl (cI, 576, .inl pix)), (g0, .inr (9, [.ref g1, .ref g2, .ref g3, .ref g4, .ref g5, .ref g6, .ref g7, .ref g8, .ref g9, .ref g10, .ref g11, .ref g12, .ref g13, .ref g14, .ref g15, .int isz, .int 0, .int ico, .int icl, .int irw, .int ibi, .int ien, .int itr, .int ibl, .int ile, .int igr, .int ibk, .int ist, .int ibr])), (g1, .inl (cI, 4, .inl wd)), (g2, .inl (cI, 4, .inl hg))]) ⟨hx, hb, hml, hown, hts⟩ (c_mo_at l hcI 0 x y) (va_cwS 3 hts (cs_gS mw_355 mw_356 mw_349 mw_346) rfl rfl rfl hd_Model_at ⟨Nat.le_of_ble_eq_true rfl, Nat.le_of_ble_eq_true rfl⟩) hN hK hP hD hS hA [] [0, 1, 2, 3] rfl rfl rfl rfl (by decide) rfl rfl hl.1 (Nat.le_of_ble_eq_true rfl) d_Model_pixel_58 ⟨Nat.le_of_ble_eq_true rfl, Nat.le_of_ble_eq_true rfl⟩ (fun r4 w1 H locs hw hP hD hS => ?_)
      obtain ⟨rfl, rfl⟩ := hw
      have hP : va_P D vwCl [(g3, .inl (cI, 576, .inl pix)), (g0, .inr (9, [.ref g1, .ref g2, .ref g3, .ref g4, .ref g5, .ref g6, .ref g7, .ref g8, .ref g9, .ref g10, .ref g11, .ref g12, .ref g13, .ref g14, .ref g15, .int isz, .int 0, .int ico, .int icl, .int irw, .int ibi, .int ien, .int itr, .int ibl, .int ile, .int igr, .int ibk, .int ist, .int ibr])), (g1, .inl (cI, 4, .inl wd)), (g2, .inl (cI, 4, .inl hg))] H := hP
      have hD : va_D A [(g3, .inl (cI, 576, .inl pix)), (g0, .inr (9, [.ref g1, .ref g2, .ref g3, .ref g4, .ref g5, .ref g6, .ref g7, .ref g8, .ref g9, .ref g10, .ref g11, .ref g12, .ref g13, .ref g14, .ref g15, .int isz, .int 0, .int ico, .int icl, .int irw, .int ibi, .int ien, .int itr, .int ibl, .int ile, .int igr, .int ibk, .int ist, .int ibr])), (g1, .inl (cI, 4, .inl wd)), (g2, .inl (cI, 4, .inl hg))] := hD
      refine lv_iload_n hx hb d_Model_pixel_61 rfl (lv_at hl 4 rfl) ?_
      refine cs_iast (j := y * 12 + x) hx hb hK hcI hP hD hS 0 rfl (congrArg nI (by omega)) (by omega) (by decide) d_Model_pixel_62 (fun H locs hP hD hS => ?_)
      have hP : va_P D vwCl [(g3, .inl (cI, 576, .inl (upd pix (y * 12 + x) v))), (g0, .inr (9, [.ref g1, .ref g2, .ref g3, .ref g4, .ref g5, .ref g6, .ref g7, .ref g8, .ref g9, .ref g10, .ref g11, .ref g12, .ref g13, .ref g14, .ref g15, .int isz, .int 0, .int ico, .int icl, .int irw, .int ibi, .int ien, .int itr, .int ibl, .int ile, .int igr, .int ibk, .int ist, .int ibr])), (g1, .inl (cI, 4, .inl wd)), (g2, .inl (cI, 4, .inl hg))] H := hP
      have hD : va_D A [(g3, .inl (cI, 576, .inl (upd pix (y * 12 + x) v))), (g0, .inr (9, [.ref g1, .ref g2, .ref g3, .ref g4, .ref g5, .ref g6, .ref g7, .ref g8, .ref g9, .ref g10, .ref g11, .ref g12, .ref g13, .ref g14, .ref g15, .int isz, .int 0, .int ico, .int icl, .int irw, .int ibi, .int ien, .int itr, .int ibl, .int ile, .int igr, .int ibk, .int ist, .int ibr])), (g1, .inl (cI, 4, .inl wd)), (g2, .inl (cI, 4, .inl hg))] := hD
      refine lv_iload hx hb d_Model_pixel_63 (lv_at hl 0 rfl) ?_
      have hP := hP.sub (ws' := [(g0, .inr (9, [.ref g1, .ref g2, .ref g3, .ref g4, .ref g5, .ref g6, .ref g7, .ref g8, .ref g9, .ref g10, .ref g11, .ref g12, .ref g13, .ref g14, .ref g15, .int isz, .int 0, .int ico, .int icl, .int irw, .int ibi, .int ien, .int itr, .int ibl, .int ile, .int igr, .int ibk, .int ist, .int ibr])), (g1, .inl (cI, 4, .inl wd)), (g2, .inl (cI, 4, .inl hg)), (g3, .inl (cI, 576, .inl (upd pix (y * 12 + x) v)))]) [1, 2, 3, 0] rfl
      have hD := hD.sub (ws' := [(g0, .inr (9, [.ref g1, .ref g2, .ref g3, .ref g4, .ref g5, .ref g6, .ref g7, .ref g8, .ref g9, .ref g10, .ref g11, .ref g12, .ref g13, .ref g14, .ref g15, .int isz, .int 0, .int ico, .int icl, .int irw, .int ibi, .int ien, .int itr, .int ibl, .int ile, .int igr, .int ibk, .int ist, .int ibr])), (g1, .inl (cI, 4, .inl wd)), (g2, .inl (cI, 4, .inl hg)), (g3, .inl (cI, 576, .inl (upd pix (y * 12 + x) v)))]) [1, 2, 3, 0] (by decide) rfl
      exact W.iret (v := (pix (y * 12 + x))) hx hb hr (fun t ht hW => ⟨⟨(pix (y * 12 + x)), [(g0, .inr (9, [.ref g1, .ref g2, .ref g3, .ref g4, .ref g5, .ref g6, .ref g7, .ref g8, .ref g9, .ref g10, .ref g11, .ref g12, .ref g13, .ref g14, .ref g15, .int isz, .int 0, .int ico, .int icl, .int irw, .int ibi, .int ien, .int itr, .int ibl, .int ile, .int igr, .int ibk, .int ist, .int ibr])), (g1, .inl (cI, 4, .inl wd)), (g2, .inl (cI, 4, .inl hg)), (g3, .inl (cI, 576, .inl (upd pix (y * 12 + x) v)))], rfl, ⟨(rfl), (rfl)⟩, by rw [ht]; exact hP, va_K.moved hW.alike hK, hD⟩, hS.F ht⟩) hS.2.2 d_Model_pixel_65
    · have c_24 := cs_b0 c_24
      exact absurd (cs_in2 hwd hx1 hpw hhg hy1 hph) c_24
  · have c_8 := cs_b0 c_8
    exact absurd hvv c_8
def q_mo_pixelB (cI : ClassId) (g0 : Nat) (g1 : Nat) (g2 : Nat) (g3 : Nat) (g4 : Nat) (g5 : Nat) (g6 : Nat) (g7 : Nat) (g8 : Nat) (g9 : Nat) (g10 : Nat) (g11 : Nat) (g12 : Nat) (g13 : Nat) (g14 : Nat) (g15 : Nat) (isz : Int32) (ith : Int32) (ico : Int32) (icl : Int32) (irw : Int32) (ibi : Int32) (ien : Int32) (itr : Int32) (ibl : Int32) (ile : Int32) (igr : Int32) (ibk : Int32) (ist : Int32) (ibr : Int32) (x : Int32) (y : Int32) (v : Int32) : Int32 → va_W → Prop := fun rr ww => rr = (0) ∧ ww = [(g0, .inr (9, [.ref g1, .ref g2, .ref g3, .ref g4, .ref g5, .ref g6, .ref g7, .ref g8, .ref g9, .ref g10, .ref g11, .ref g12, .ref g13, .ref g14, .ref g15, .int isz, .int 1, .int ico, .int icl, .int irw, .int ibi, .int ien, .int itr, .int ibl, .int ile, .int igr, .int ibk, .int ist, .int ibr]))]
set_option maxHeartbeats 4000000 in
set_option maxRecDepth 100000 in
theorem c_mo_pixelB (l : Launch) {D : va_G} {tys : List (ClassId × FieldType)} {cI : ClassId} (hcI : tys[0]? = some (cI, .int)) (g0 : Nat) (g1 : Nat) (g2 : Nat) (g3 : Nat) (g4 : Nat) (g5 : Nat) (g6 : Nat) (g7 : Nat) (g8 : Nat) (g9 : Nat) (g10 : Nat) (g11 : Nat) (g12 : Nat) (g13 : Nat) (g14 : Nat) (g15 : Nat) (isz : Int32) (ith : Int32) (ico : Int32) (icl : Int32) (irw : Int32) (ibi : Int32) (ien : Int32) (itr : Int32) (ibl : Int32) (ile : Int32) (igr : Int32) (ibk : Int32) (ist : Int32) (ibr : Int32) (x : Int32) (y : Int32) (v : Int32) (hvv : ¬ (¬ v < 0 ∧ ¬ 255 < v)) : CsI l D vwCl tys y_Model_pixel ws_Model_pixel ({ frames := 1, cells := 0, slots := 0, locals := 22 } : Room) [.ref g0, .int x, .int y, .int v] [(g0, .inr (9, [.ref g1, .ref g2, .ref g3, .ref g4, .ref g5, .ref g6, .ref g7, .ref g8, .ref g9, .ref g10, .ref g11, .ref g12, .ref g13, .ref g14, .ref g15, .int isz, .int ith, .int ico, .int icl, .int irw, .int ibi, .int ien, .int itr, .int ibl, .int ile, .int igr, .int ibk, .int ist, .int ibr]))] (q_mo_pixelB cI g0 g1 g2 g3 g4 g5 g6 g7 g8 g9 g10 g11 g12 g13 g14 g15 isz ith ico icl irw ibi ien itr ibl ile igr ibk ist ibr x y v) 0 0 := by
  intro sz
  refine Met.ofW (cc := prog_11_method_9_code) (maxL := 5) (ret := (some .int)) (by decide) rfl ?_
  intro p e s m args below meth c s₁ B hml hv
  obtain ⟨rfl, hsz, hP, hK, hD0, hN⟩ := hv
  have hx := B.exec
  have hb := B.bytes
  have hr := B.returns
  have hts := atoms_spec (ws := ws_Model_pixel) B.pre
  have hown : s.vm.findClass "TileForgeModel" = some m.cls := findClass_of_methodNamed B.named
  have hlocks := B.notSynchronized
  subst hsz
  have hD := hD0.self (sz := s.heap.size)
  generalize hAe : va_A [(g0, .inr (9, [.ref g1, .ref g2, .ref g3, .ref g4, .ref g5, .ref g6, .ref g7, .ref g8, .ref g9, .ref g10, .ref g11, .ref g12, .ref g13, .ref g14, .ref g15, .int isz, .int ith, .int ico, .int icl, .int irw, .int ibi, .int ien, .int itr, .int ibl, .int ile, .int igr, .int ibk, .int ist, .int ibr]))] s.heap.size = A at hD ⊢
  have hA : ∀ q : Nat, s.heap.size ≤ q → A q := fun q h => by rw [← hAe]; exact Or.inr h
  have hS : va_S A s.heap s.heap [] := va_S.rf
  have hP : va_P D vwCl [(g0, .inr (9, [.ref g1, .ref g2, .ref g3, .ref g4, .ref g5, .ref g6, .ref g7, .ref g8, .ref g9, .ref g10, .ref g11, .ref g12, .ref g13, .ref g14, .ref g15, .int isz, .int ith, .int ico, .int icl, .int irw, .int ibi, .int ien, .int itr, .int ibl, .int ile, .int igr, .int ibk, .int ist, .int ibr]))] s.heap := hP
  have hl := lv_entry ([.ref g0, .int x, .int y, .int v]) (n := 5) (Nat.le_of_ble_eq_true rfl)
  rw [lg_entry_eq]
  generalize (lg_sl ([.ref g0, .int x, .int y, .int v]) ++ List.replicate (5 - (lg_sl ([.ref g0, .int x, .int y, .int v])).length) Slot.unset).toArray = ls at hl ⊢
  have hl : lv_has ls 5 [(0, .ref g0), (1, .int x), (2, .int y), (3, .int v)] := hl
  refine lv_iload_n hx hb d_Model_pixel_0 rfl (lv_at hl 3 rfl) ?_
  refine lv_iconst (v := 0) hx hb d_Model_pixel_1 (by decide) ?_
  refine lv_sipush (v := 255) hx hb d_Model_pixel_2 (by decide) ?_
  refine cs_Si (As := [.int v, .int 0, .int 255]) (rest := []) (wr := [(g0, .inr (9, [.ref g1, .ref g2, .ref g3, .ref g4, .ref g5, .ref g6, .ref g7, .ref g8, .ref g9, .ref g10, .ref g11, .ref g12, .ref g13, .ref g14, .ref g15, .int isz, .int ith, .int ico, .int icl, .int irw, .int ibi, .int ien, .int itr, .int ibl, .int ile, .int igr, .int ibk, .int ist, .int ibr]))]) ⟨hx, hb, hml, hown, hts⟩ (c_mo_in l hcI v 0 255) (va_cwS 3 hts (cs_gS mw_350 mw_351 mw_349 mw_341) rfl rfl rfl hd_Model_in ⟨Nat.le_of_ble_eq_true rfl, Nat.le_of_ble_eq_true rfl⟩) hN hK hP hD hS hA [] [0] rfl rfl rfl rfl (by decide) rfl rfl hl.1 (Nat.le_of_ble_eq_true rfl) d_Model_pixel_5 ⟨Nat.le_of_ble_eq_true rfl, Nat.le_of_ble_eq_true rfl⟩ (fun r1 w1 H locs hw hP hD hS => ?_)
  obtain ⟨rfl, rfl⟩ := hw
  have hP : va_P D vwCl [(g0, .inr (9, [.ref g1, .ref g2, .ref g3, .ref g4, .ref g5, .ref g6, .ref g7, .ref g8, .ref g9, .ref g10, .ref g11, .ref g12, .ref g13, .ref g14, .ref g15, .int isz, .int ith, .int ico, .int icl, .int irw, .int ibi, .int ien, .int itr, .int ibl, .int ile, .int igr, .int ibk, .int ist, .int ibr]))] H := hP
  have hD : va_D A [(g0, .inr (9, [.ref g1, .ref g2, .ref g3, .ref g4, .ref g5, .ref g6, .ref g7, .ref g8, .ref g9, .ref g10, .ref g11, .ref g12, .ref g13, .ref g14, .ref g15, .int isz, .int ith, .int ico, .int icl, .int irw, .int ibi, .int ien, .int itr, .int ibl, .int ile, .int igr, .int ibk, .int ist, .int ibr]))] := hD
  refine lv_if_ne (tgt := 17) hx hb d_Model_pixel_8 (by decide) (fun c_8 => ?_) (fun c_8 => ?_)
  · have c_8 := cs_b1 c_8
    exact absurd c_8 hvv
  · have c_8 := cs_b0 c_8
    refine lv_aload_n hx hb d_Model_pixel_11 rfl (lv_at hl 0 rfl) ?_
    refine lv_iconst (v := 1) hx hb d_Model_pixel_12 (by decide) ?_
    refine cs_Vi (As := [.int 1]) (rest := []) (wr := []) ⟨hx, hb, hml, hown, hts⟩ (c_mo_fail l hcI g0 g1 g2 g3 g4 g5 g6 g7 g8 g9 g10 g11 g12 g13 g14 g15 isz ith ico icl irw ibi ien itr ibl ile igr ibk ist ibr 1) (cwV 1 hts (cs_gV mw_435 mw_436 mw_437 mw_349 mw_342) rfl rfl rfl ⟨rfl, hd_Model_fail⟩ ⟨Nat.le_of_ble_eq_true rfl, Nat.le_of_ble_eq_true rfl⟩) hN hK hP hD hS hA [0] [] rfl rfl rfl rfl (by decide) (ci := 9) rfl rfl rfl rfl rfl hl.1 (Nat.le_of_ble_eq_true rfl) d_Model_pixel_13 ⟨Nat.le_of_ble_eq_true rfl, Nat.le_of_ble_eq_true rfl⟩ (fun r2 w1 H locs hw hP hD hS => ?_)
    obtain ⟨rfl, rfl⟩ := hw
    have hP : va_P D vwCl [(g0, .inr (9, [.ref g1, .ref g2, .ref g3, .ref g4, .ref g5, .ref g6, .ref g7, .ref g8, .ref g9, .ref g10, .ref g11, .ref g12, .ref g13, .ref g14, .ref g15, .int isz, .int 1, .int ico, .int icl, .int irw, .int ibi, .int ien, .int itr, .int ibl, .int ile, .int igr, .int ibk, .int ist, .int ibr]))] H := hP
    have hD : va_D A [(g0, .inr (9, [.ref g1, .ref g2, .ref g3, .ref g4, .ref g5, .ref g6, .ref g7, .ref g8, .ref g9, .ref g10, .ref g11, .ref g12, .ref g13, .ref g14, .ref g15, .int isz, .int 1, .int ico, .int icl, .int irw, .int ibi, .int ien, .int itr, .int ibl, .int ile, .int igr, .int ibk, .int ist, .int ibr]))] := hD
    exact W.iret (v := 0) hx hb hr (fun t ht hW => ⟨⟨0, [(g0, .inr (9, [.ref g1, .ref g2, .ref g3, .ref g4, .ref g5, .ref g6, .ref g7, .ref g8, .ref g9, .ref g10, .ref g11, .ref g12, .ref g13, .ref g14, .ref g15, .int isz, .int 1, .int ico, .int icl, .int irw, .int ibi, .int ien, .int itr, .int ibl, .int ile, .int igr, .int ibk, .int ist, .int ibr]))], rfl, ⟨(rfl), (rfl)⟩, by rw [ht]; exact hP, va_K.moved hW.alike hK, hD⟩, hS.F ht⟩) hS.2.2 d_Model_pixel_16
def q_mo_pixelC (cI : ClassId) (g0 : Nat) (g1 : Nat) (g2 : Nat) (g3 : Nat) (g4 : Nat) (g5 : Nat) (g6 : Nat) (g7 : Nat) (g8 : Nat) (g9 : Nat) (g10 : Nat) (g11 : Nat) (g12 : Nat) (g13 : Nat) (g14 : Nat) (g15 : Nat) (isz : Int32) (ith : Int32) (ico : Int32) (icl : Int32) (irw : Int32) (ibi : Int32) (ien : Int32) (itr : Int32) (ibl : Int32) (ile : Int32) (igr : Int32) (ibk : Int32) (ist : Int32) (ibr : Int32) (wd : Nat → Int32) (hg : Nat → Int32) (x : Int32) (y : Int32) (v : Int32) : Int32 → va_W → Prop := fun rr ww => rr = (0) ∧ ww = [(g0, .inr (9, [.ref g1, .ref g2, .ref g3, .ref g4, .ref g5, .ref g6, .ref g7, .ref g8, .ref g9, .ref g10, .ref g11, .ref g12, .ref g13, .ref g14, .ref g15, .int isz, .int 2, .int ico, .int icl, .int irw, .int ibi, .int ien, .int itr, .int ibl, .int ile, .int igr, .int ibk, .int ist, .int ibr])), (g1, .inl (cI, 4, .inl wd)), (g2, .inl (cI, 4, .inl hg))]
set_option maxHeartbeats 4000000 in
set_option maxRecDepth 100000 in
theorem c_mo_pixelC (l : Launch) {D : va_G} {tys : List (ClassId × FieldType)} {cI : ClassId} (hcI : tys[0]? = some (cI, .int)) (g0 : Nat) (g1 : Nat) (g2 : Nat) (g3 : Nat) (g4 : Nat) (g5 : Nat) (g6 : Nat) (g7 : Nat) (g8 : Nat) (g9 : Nat) (g10 : Nat) (g11 : Nat) (g12 : Nat) (g13 : Nat) (g14 : Nat) (g15 : Nat) (isz : Int32) (ith : Int32) (ico : Int32) (icl : Int32) (irw : Int32) (ibi : Int32) (ien : Int32) (itr : Int32) (ibl : Int32) (ile : Int32) (igr : Int32) (ibk : Int32) (ist : Int32) (ibr : Int32) (wd : Nat → Int32) (hg : Nat → Int32) (x : Int32) (y : Int32) (v : Int32) (hvv : ¬ v < 0 ∧ ¬ 255 < v) (hno : ¬ ((¬ x < 0 ∧ ¬ (wd 0) - 1 < x) ∧ (¬ y < 0 ∧ ¬ (hg 0) - 1 < y))) : CsI l D vwCl tys y_Model_pixel ws_Model_pixel ({ frames := 2, cells := 0, slots := 0, locals := 45 } : Room) [.ref g0, .int x, .int y, .int v] [(g0, .inr (9, [.ref g1, .ref g2, .ref g3, .ref g4, .ref g5, .ref g6, .ref g7, .ref g8, .ref g9, .ref g10, .ref g11, .ref g12, .ref g13, .ref g14, .ref g15, .int isz, .int ith, .int ico, .int icl, .int irw, .int ibi, .int ien, .int itr, .int ibl, .int ile, .int igr, .int ibk, .int ist, .int ibr])), (g1, .inl (cI, 4, .inl wd)), (g2, .inl (cI, 4, .inl hg))] (q_mo_pixelC cI g0 g1 g2 g3 g4 g5 g6 g7 g8 g9 g10 g11 g12 g13 g14 g15 isz ith ico icl irw ibi ien itr ibl ile igr ibk ist ibr wd hg x y v) 0 0 := by
  intro sz
  refine Met.ofW (cc := prog_11_method_9_code) (maxL := 5) (ret := (some .int)) (by decide) rfl ?_
  intro p e s m args below meth c s₁ B hml hv
  obtain ⟨rfl, hsz, hP, hK, hD0, hN⟩ := hv
  have hx := B.exec
  have hb := B.bytes
  have hr := B.returns
  have hts := atoms_spec (ws := ws_Model_pixel) B.pre
  have hown : s.vm.findClass "TileForgeModel" = some m.cls := findClass_of_methodNamed B.named
  have hlocks := B.notSynchronized
  subst hsz
  have hD := hD0.self (sz := s.heap.size)
  generalize hAe : va_A [(g0, .inr (9, [.ref g1, .ref g2, .ref g3, .ref g4, .ref g5, .ref g6, .ref g7, .ref g8, .ref g9, .ref g10, .ref g11, .ref g12, .ref g13, .ref g14, .ref g15, .int isz, .int ith, .int ico, .int icl, .int irw, .int ibi, .int ien, .int itr, .int ibl, .int ile, .int igr, .int ibk, .int ist, .int ibr])), (g1, .inl (cI, 4, .inl wd)), (g2, .inl (cI, 4, .inl hg))] s.heap.size = A at hD ⊢
  have hA : ∀ q : Nat, s.heap.size ≤ q → A q := fun q h => by rw [← hAe]; exact Or.inr h
  have hS : va_S A s.heap s.heap [] := va_S.rf
  have hP : va_P D vwCl [(g0, .inr (9, [.ref g1, .ref g2, .ref g3, .ref g4, .ref g5, .ref g6, .ref g7, .ref g8, .ref g9, .ref g10, .ref g11, .ref g12, .ref g13, .ref g14, .ref g15, .int isz, .int ith, .int ico, .int icl, .int irw, .int ibi, .int ien, .int itr, .int ibl, .int ile, .int igr, .int ibk, .int ist, .int ibr])), (g1, .inl (cI, 4, .inl wd)), (g2, .inl (cI, 4, .inl hg))] s.heap := hP
  have hl := lv_entry ([.ref g0, .int x, .int y, .int v]) (n := 5) (Nat.le_of_ble_eq_true rfl)
  rw [lg_entry_eq]
  generalize (lg_sl ([.ref g0, .int x, .int y, .int v]) ++ List.replicate (5 - (lg_sl ([.ref g0, .int x, .int y, .int v])).length) Slot.unset).toArray = ls at hl ⊢
  have hl : lv_has ls 5 [(0, .ref g0), (1, .int x), (2, .int y), (3, .int v)] := hl
  refine lv_iload_n hx hb d_Model_pixel_0 rfl (lv_at hl 3 rfl) ?_
  refine lv_iconst (v := 0) hx hb d_Model_pixel_1 (by decide) ?_
  refine lv_sipush (v := 255) hx hb d_Model_pixel_2 (by decide) ?_
  refine cs_Si (As := [.int v, .int 0, .int 255]) (rest := []) (wr := [(g0, .inr (9, [.ref g1, .ref g2, .ref g3, .ref g4, .ref g5, .ref g6, .ref g7, .ref g8, .ref g9, .ref g10, .ref g11, .ref g12, .ref g13, .ref g14, .ref g15, .int isz, .int ith, .int ico, .int icl, .int irw, .int ibi, .int ien, .int itr, .int ibl, .int ile, .int igr, .int ibk, .int ist, .int ibr])), (g1, .inl (cI, 4, .inl wd)), (g2, .inl (cI, 4, .inl hg))]) ⟨hx, hb, hml, hown, hts⟩ (c_mo_in l hcI v 0 255) (va_cwS 3 hts (cs_gS mw_350 mw_351 mw_349 mw_341) rfl rfl rfl hd_Model_in ⟨Nat.le_of_ble_eq_true rfl, Nat.le_of_ble_eq_true rfl⟩) hN hK hP hD hS hA [] [0, 1, 2] rfl rfl rfl rfl (by decide) rfl rfl hl.1 (Nat.le_of_ble_eq_true rfl) d_Model_pixel_5 ⟨Nat.le_of_ble_eq_true rfl, Nat.le_of_ble_eq_true rfl⟩ (fun r1 w1 H locs hw hP hD hS => ?_)
  obtain ⟨rfl, rfl⟩ := hw
  have hP : va_P D vwCl [(g0, .inr (9, [.ref g1, .ref g2, .ref g3, .ref g4, .ref g5, .ref g6, .ref g7, .ref g8, .ref g9, .ref g10, .ref g11, .ref g12, .ref g13, .ref g14, .ref g15, .int isz, .int ith, .int ico, .int icl, .int irw, .int ibi, .int ien, .int itr, .int ibl, .int ile, .int igr, .int ibk, .int ist, .int ibr])), (g1, .inl (cI, 4, .inl wd)), (g2, .inl (cI, 4, .inl hg))] H := hP
  have hD : va_D A [(g0, .inr (9, [.ref g1, .ref g2, .ref g3, .ref g4, .ref g5, .ref g6, .ref g7, .ref g8, .ref g9, .ref g10, .ref g11, .ref g12, .ref g13, .ref g14, .ref g15, .int isz, .int ith, .int ico, .int icl, .int irw, .int ibi, .int ien, .int itr, .int ibl, .int ile, .int igr, .int ibk, .int ist, .int ibr])), (g1, .inl (cI, 4, .inl wd)), (g2, .inl (cI, 4, .inl hg))] := hD
  refine lv_if_ne (tgt := 17) hx hb d_Model_pixel_8 (by decide) (fun c_8 => ?_) (fun c_8 => ?_)
  · have c_8 := cs_b1 c_8
    refine lv_aload_n hx hb d_Model_pixel_17 rfl (lv_at hl 0 rfl) ?_
    refine lv_iconst (v := 0) hx hb d_Model_pixel_18 (by decide) ?_
    refine lv_iload_n hx hb d_Model_pixel_19 rfl (lv_at hl 1 rfl) ?_
    refine lv_iload_n hx hb d_Model_pixel_20 rfl (lv_at hl 2 rfl) ?_
    refine cs_Vi (As := [.int 0, .int x, .int y]) (rest := []) (wr := []) ⟨hx, hb, hml, hown, hts⟩ (c_mo_isIn l hcI g0 g1 g2 g3 g4 g5 g6 g7 g8 g9 g10 g11 g12 g13 g14 g15 isz ith ico icl irw ibi ien itr ibl ile igr ibk ist ibr wd hg 0 x y (by decide)) (cwV 3 hts (cs_gV mw_439 mw_440 mw_441 mw_349 mw_347) rfl rfl rfl ⟨rfl, hd_Model_isIn⟩ ⟨Nat.le_of_ble_eq_true rfl, Nat.le_of_ble_eq_true rfl⟩) hN hK hP hD hS hA [0, 1, 2] [] rfl rfl rfl rfl (by decide) (ci := 9) rfl rfl rfl rfl rfl hl.1 (Nat.le_of_ble_eq_true rfl) d_Model_pixel_21 ⟨Nat.le_of_ble_eq_true rfl, Nat.le_of_ble_eq_true rfl⟩ (fun r2 w1 H locs hw hP hD hS => ?_)
    obtain ⟨rfl, rfl⟩ := hw
    have hP : va_P D vwCl [(g0, .inr (9, [.ref g1, .ref g2, .ref g3, .ref g4, .ref g5, .ref g6, .ref g7, .ref g8, .ref g9, .ref g10, .ref g11, .ref g12, .ref g13, .ref g14, .ref g15, .int isz, .int ith, .int ico, .int icl, .int irw, .int ibi, .int ien, .int itr, .int ibl, .int ile, .int igr, .int ibk, .int ist, .int ibr])), (g1, .inl (cI, 4, .inl wd)), (g2, .inl (cI, 4, .inl hg))] H := hP
    have hD : va_D A [(g0, .inr (9, [.ref g1, .ref g2, .ref g3, .ref g4, .ref g5, .ref g6, .ref g7, .ref g8, .ref g9, .ref g10, .ref g11, .ref g12, .ref g13, .ref g14, .ref g15, .int isz, .int ith, .int ico, .int icl, .int irw, .int ibi, .int ien, .int itr, .int ibl, .int ile, .int igr, .int ibk, .int ist, .int ibr])), (g1, .inl (cI, 4, .inl wd)), (g2, .inl (cI, 4, .inl hg))] := hD
    refine lv_if_ne (tgt := 33) hx hb d_Model_pixel_24 (by decide) (fun c_24 => ?_) (fun c_24 => ?_)
    · have c_24 := cs_b1 c_24
      exact absurd c_24 hno
    · have c_24 := cs_b0 c_24
      refine lv_aload_n hx hb d_Model_pixel_27 rfl (lv_at hl 0 rfl) ?_
      refine lv_iconst (v := 2) hx hb d_Model_pixel_28 (by decide) ?_
      refine cs_Vi (As := [.int 2]) (rest := []) (wr := [(g1, .inl (cI, 4, .inl wd)), (g2, .inl (cI, 4, .inl hg))]) ⟨hx, hb, hml, hown, hts⟩ (c_mo_fail l hcI g0 g1 g2 g3 g4 g5 g6 g7 g8 g9 g10 g11 g12 g13 g14 g15 isz ith ico icl irw ibi ien itr ibl ile igr ibk ist ibr 2) (cwV 1 hts (cs_gV mw_435 mw_436 mw_437 mw_349 mw_342) rfl rfl rfl ⟨rfl, hd_Model_fail⟩ ⟨Nat.le_of_ble_eq_true rfl, Nat.le_of_ble_eq_true rfl⟩) hN hK hP hD hS hA [0] [1, 2] rfl rfl rfl rfl (by decide) (ci := 9) rfl rfl rfl rfl rfl hl.1 (Nat.le_of_ble_eq_true rfl) d_Model_pixel_29 ⟨Nat.le_of_ble_eq_true rfl, Nat.le_of_ble_eq_true rfl⟩ (fun r3 w1 H locs hw hP hD hS => ?_)
      obtain ⟨rfl, rfl⟩ := hw
      have hP : va_P D vwCl [(g1, .inl (cI, 4, .inl wd)), (g2, .inl (cI, 4, .inl hg)), (g0, .inr (9, [.ref g1, .ref g2, .ref g3, .ref g4, .ref g5, .ref g6, .ref g7, .ref g8, .ref g9, .ref g10, .ref g11, .ref g12, .ref g13, .ref g14, .ref g15, .int isz, .int 2, .int ico, .int icl, .int irw, .int ibi, .int ien, .int itr, .int ibl, .int ile, .int igr, .int ibk, .int ist, .int ibr]))] H := hP
      have hD : va_D A [(g1, .inl (cI, 4, .inl wd)), (g2, .inl (cI, 4, .inl hg)), (g0, .inr (9, [.ref g1, .ref g2, .ref g3, .ref g4, .ref g5, .ref g6, .ref g7, .ref g8, .ref g9, .ref g10, .ref g11, .ref g12, .ref g13, .ref g14, .ref g15, .int isz, .int 2, .int ico, .int icl, .int irw, .int ibi, .int ien, .int itr, .int ibl, .int ile, .int igr, .int ibk, .int ist, .int ibr]))] := hD
      have hP := hP.sub (ws' := [(g0, .inr (9, [.ref g1, .ref g2, .ref g3, .ref g4, .ref g5, .ref g6, .ref g7, .ref g8, .ref g9, .ref g10, .ref g11, .ref g12, .ref g13, .ref g14, .ref g15, .int isz, .int 2, .int ico, .int icl, .int irw, .int ibi, .int ien, .int itr, .int ibl, .int ile, .int igr, .int ibk, .int ist, .int ibr])), (g1, .inl (cI, 4, .inl wd)), (g2, .inl (cI, 4, .inl hg))]) [2, 0, 1] rfl
      have hD := hD.sub (ws' := [(g0, .inr (9, [.ref g1, .ref g2, .ref g3, .ref g4, .ref g5, .ref g6, .ref g7, .ref g8, .ref g9, .ref g10, .ref g11, .ref g12, .ref g13, .ref g14, .ref g15, .int isz, .int 2, .int ico, .int icl, .int irw, .int ibi, .int ien, .int itr, .int ibl, .int ile, .int igr, .int ibk, .int ist, .int ibr])), (g1, .inl (cI, 4, .inl wd)), (g2, .inl (cI, 4, .inl hg))]) [2, 0, 1] (by decide) rfl
      exact W.iret (v := 0) hx hb hr (fun t ht hW => ⟨⟨0, [(g0, .inr (9, [.ref g1, .ref g2, .ref g3, .ref g4, .ref g5, .ref g6, .ref g7, .ref g8, .ref g9, .ref g10, .ref g11, .ref g12, .ref g13, .ref g14, .ref g15, .int isz, .int 2, .int ico, .int icl, .int irw, .int ibi, .int ien, .int itr, .int ibl, .int ile, .int igr, .int ibk, .int ist, .int ibr])), (g1, .inl (cI, 4, .inl wd)), (g2, .inl (cI, 4, .inl hg))], rfl, ⟨(rfl), (rfl)⟩, by rw [ht]; exact hP, va_K.moved hW.alike hK, hD⟩, hS.F ht⟩) hS.2.2 d_Model_pixel_32
  · have c_8 := cs_b0 c_8
    exact absurd hvv c_8
def y_Model_fill : MethodName := ⟨"TileForgeModel", "fill", "(IIIII)I"⟩
def ws_Model_fill : List Cond := .code y_Model_fill prog_11_method_10_code 8 (some .int) :: GW
theorem mw_442 : (.code ⟨"TileForgeModel", "fill", "(IIIII)I"⟩ prog_11_method_10_code 8 (some .int) : Cond) ∈ GW := List.mem_filter.mpr ⟨(List.mem_append_right _ (List.mem_append_right _ (List.mem_append_right _ (List.mem_append_right _ (List.mem_of_getElem? (i := 76) rfl))))), rfl⟩
theorem hd_Model_fill : y_Model_fill.cls ≠ "java/lang/invoke/MethodHandle" ∧ y_Model_fill.cls ≠ "java/lang/invoke/VarHandle" ∧ (parseMethodDescriptor y_Model_fill.desc).map (fun d => d.parameters.length) = some 5 := by decide +kernel
theorem d_Model_fill_0 : decode prog_11_method_10_code 0 = .ok (.iload_n 3, 1) := by decide +kernel
theorem d_Model_fill_1 : decode prog_11_method_10_code 1 = .ok (.iconst 0, 1) := by decide +kernel
theorem d_Model_fill_2 : decode prog_11_method_10_code 2 = .ok (.sipush 255, 3) := by decide +kernel
theorem d_Model_fill_5 : decode prog_11_method_10_code 5 = .ok (.invokestatic 64, 3) := by decide +kernel
theorem d_Model_fill_8 : decode prog_11_method_10_code 8 = .ok (.ifCond .eq 31, 3) := by decide +kernel
theorem d_Model_fill_11 : decode prog_11_method_10_code 11 = .ok (.iload 4, 2) := by decide +kernel
theorem d_Model_fill_13 : decode prog_11_method_10_code 13 = .ok (.sipush (-255), 3) := by decide +kernel
theorem d_Model_fill_16 : decode prog_11_method_10_code 16 = .ok (.sipush 255, 3) := by decide +kernel
theorem d_Model_fill_19 : decode prog_11_method_10_code 19 = .ok (.invokestatic 64, 3) := by decide +kernel
theorem d_Model_fill_22 : decode prog_11_method_10_code 22 = .ok (.ifCond .eq 17, 3) := by decide +kernel
theorem d_Model_fill_25 : decode prog_11_method_10_code 25 = .ok (.iload 5, 2) := by decide +kernel
theorem d_Model_fill_27 : decode prog_11_method_10_code 27 = .ok (.sipush (-255), 3) := by decide +kernel
theorem d_Model_fill_30 : decode prog_11_method_10_code 30 = .ok (.sipush 255, 3) := by decide +kernel
theorem d_Model_fill_33 : decode prog_11_method_10_code 33 = .ok (.invokestatic 64, 3) := by decide +kernel
theorem d_Model_fill_36 : decode prog_11_method_10_code 36 = .ok (.ifCond .ne 9, 3) := by decide +kernel
theorem d_Model_fill_39 : decode prog_11_method_10_code 39 = .ok (.aload_n 0, 1) := by decide +kernel
theorem d_Model_fill_40 : decode prog_11_method_10_code 40 = .ok (.iconst 1, 1) := by decide +kernel
theorem d_Model_fill_41 : decode prog_11_method_10_code 41 = .ok (.invokevirtual 60, 3) := by decide +kernel
theorem d_Model_fill_44 : decode prog_11_method_10_code 44 = .ok (.ireturn, 1) := by decide +kernel
theorem d_Model_fill_45 : decode prog_11_method_10_code 45 = .ok (.aload_n 0, 1) := by decide +kernel
theorem d_Model_fill_46 : decode prog_11_method_10_code 46 = .ok (.iconst 0, 1) := by decide +kernel
theorem d_Model_fill_47 : decode prog_11_method_10_code 47 = .ok (.iload_n 1, 1) := by decide +kernel
theorem d_Model_fill_48 : decode prog_11_method_10_code 48 = .ok (.iload_n 2, 1) := by decide +kernel
theorem d_Model_fill_49 : decode prog_11_method_10_code 49 = .ok (.invokevirtual 68, 3) := by decide +kernel
theorem d_Model_fill_52 : decode prog_11_method_10_code 52 = .ok (.ifCond .ne 9, 3) := by decide +kernel
theorem d_Model_fill_55 : decode prog_11_method_10_code 55 = .ok (.aload_n 0, 1) := by decide +kernel
theorem d_Model_fill_56 : decode prog_11_method_10_code 56 = .ok (.iconst 2, 1) := by decide +kernel
theorem d_Model_fill_57 : decode prog_11_method_10_code 57 = .ok (.invokevirtual 60, 3) := by decide +kernel
theorem d_Model_fill_60 : decode prog_11_method_10_code 60 = .ok (.ireturn, 1) := by decide +kernel
theorem d_Model_fill_61 : decode prog_11_method_10_code 61 = .ok (.aload_n 0, 1) := by decide +kernel
theorem d_Model_fill_62 : decode prog_11_method_10_code 62 = .ok (.iconst 0, 1) := by decide +kernel
theorem d_Model_fill_63 : decode prog_11_method_10_code 63 = .ok (.putfield 56, 3) := by decide +kernel
theorem d_Model_fill_66 : decode prog_11_method_10_code 66 = .ok (.iload_n 2, 1) := by decide +kernel
theorem d_Model_fill_67 : decode prog_11_method_10_code 67 = .ok (.istore 6, 2) := by decide +kernel
theorem d_Model_fill_69 : decode prog_11_method_10_code 69 = .ok (.iload 6, 2) := by decide +kernel
theorem d_Model_fill_71 : decode prog_11_method_10_code 71 = .ok (.aload_n 0, 1) := by decide +kernel
theorem d_Model_fill_72 : decode prog_11_method_10_code 72 = .ok (.getfield 13, 3) := by decide +kernel
theorem d_Model_fill_75 : decode prog_11_method_10_code 75 = .ok (.iconst 0, 1) := by decide +kernel
theorem d_Model_fill_76 : decode prog_11_method_10_code 76 = .ok (.iaload, 1) := by decide +kernel
theorem d_Model_fill_77 : decode prog_11_method_10_code 77 = .ok (.if_icmp .ge 62, 3) := by decide +kernel
theorem d_Model_fill_80 : decode prog_11_method_10_code 80 = .ok (.iload_n 1, 1) := by decide +kernel
theorem d_Model_fill_81 : decode prog_11_method_10_code 81 = .ok (.istore 7, 2) := by decide +kernel
theorem d_Model_fill_83 : decode prog_11_method_10_code 83 = .ok (.iload 7, 2) := by decide +kernel
theorem d_Model_fill_85 : decode prog_11_method_10_code 85 = .ok (.aload_n 0, 1) := by decide +kernel
theorem d_Model_fill_86 : decode prog_11_method_10_code 86 = .ok (.getfield 7, 3) := by decide +kernel
theorem d_Model_fill_89 : decode prog_11_method_10_code 89 = .ok (.iconst 0, 1) := by decide +kernel
theorem d_Model_fill_90 : decode prog_11_method_10_code 90 = .ok (.iaload, 1) := by decide +kernel
theorem d_Model_fill_91 : decode prog_11_method_10_code 91 = .ok (.if_icmp .ge 42, 3) := by decide +kernel
theorem d_Model_fill_94 : decode prog_11_method_10_code 94 = .ok (.aload_n 0, 1) := by decide +kernel
theorem d_Model_fill_95 : decode prog_11_method_10_code 95 = .ok (.getfield 16, 3) := by decide +kernel
theorem d_Model_fill_98 : decode prog_11_method_10_code 98 = .ok (.iconst 0, 1) := by decide +kernel
theorem d_Model_fill_99 : decode prog_11_method_10_code 99 = .ok (.iload 7, 2) := by decide +kernel
theorem d_Model_fill_101 : decode prog_11_method_10_code 101 = .ok (.iload 6, 2) := by decide +kernel
theorem d_Model_fill_103 : decode prog_11_method_10_code 103 = .ok (.invokestatic 71, 3) := by decide +kernel
theorem d_Model_fill_106 : decode prog_11_method_10_code 106 = .ok (.iload_n 3, 1) := by decide +kernel
theorem d_Model_fill_107 : decode prog_11_method_10_code 107 = .ok (.iload 4, 2) := by decide +kernel
theorem d_Model_fill_109 : decode prog_11_method_10_code 109 = .ok (.iload 7, 2) := by decide +kernel
theorem d_Model_fill_111 : decode prog_11_method_10_code 111 = .ok (.iload_n 1, 1) := by decide +kernel
theorem d_Model_fill_112 : decode prog_11_method_10_code 112 = .ok (.isub, 1) := by decide +kernel
theorem d_Model_fill_113 : decode prog_11_method_10_code 113 = .ok (.imul, 1) := by decide +kernel
theorem d_Model_fill_114 : decode prog_11_method_10_code 114 = .ok (.iadd, 1) := by decide +kernel
theorem d_Model_fill_115 : decode prog_11_method_10_code 115 = .ok (.iload 5, 2) := by decide +kernel
theorem d_Model_fill_117 : decode prog_11_method_10_code 117 = .ok (.iload 6, 2) := by decide +kernel
theorem d_Model_fill_119 : decode prog_11_method_10_code 119 = .ok (.iload_n 2, 1) := by decide +kernel
theorem d_Model_fill_120 : decode prog_11_method_10_code 120 = .ok (.isub, 1) := by decide +kernel
theorem d_Model_fill_121 : decode prog_11_method_10_code 121 = .ok (.imul, 1) := by decide +kernel
theorem d_Model_fill_122 : decode prog_11_method_10_code 122 = .ok (.iadd, 1) := by decide +kernel
theorem d_Model_fill_123 : decode prog_11_method_10_code 123 = .ok (.invokestatic 75, 3) := by decide +kernel
theorem d_Model_fill_126 : decode prog_11_method_10_code 126 = .ok (.iastore, 1) := by decide +kernel
theorem d_Model_fill_127 : decode prog_11_method_10_code 127 = .ok (.iinc 7 1, 3) := by decide +kernel
theorem d_Model_fill_130 : decode prog_11_method_10_code 130 = .ok (.goto (-47), 3) := by decide +kernel
theorem d_Model_fill_133 : decode prog_11_method_10_code 133 = .ok (.iinc 6 1, 3) := by decide +kernel
theorem d_Model_fill_136 : decode prog_11_method_10_code 136 = .ok (.goto (-67), 3) := by decide +kernel
theorem d_Model_fill_139 : decode prog_11_method_10_code 139 = .ok (.aload_n 0, 1) := by decide +kernel
theorem d_Model_fill_140 : decode prog_11_method_10_code 140 = .ok (.getfield 7, 3) := by decide +kernel
theorem d_Model_fill_143 : decode prog_11_method_10_code 143 = .ok (.iconst 0, 1) := by decide +kernel
theorem d_Model_fill_144 : decode prog_11_method_10_code 144 = .ok (.iaload, 1) := by decide +kernel
theorem d_Model_fill_145 : decode prog_11_method_10_code 145 = .ok (.iload_n 1, 1) := by decide +kernel
theorem d_Model_fill_146 : decode prog_11_method_10_code 146 = .ok (.isub, 1) := by decide +kernel
theorem d_Model_fill_147 : decode prog_11_method_10_code 147 = .ok (.aload_n 0, 1) := by decide +kernel
theorem d_Model_fill_148 : decode prog_11_method_10_code 148 = .ok (.getfield 13, 3) := by decide +kernel
theorem d_Model_fill_151 : decode prog_11_method_10_code 151 = .ok (.iconst 0, 1) := by decide +kernel
theorem d_Model_fill_152 : decode prog_11_method_10_code 152 = .ok (.iaload, 1) := by decide +kernel
theorem d_Model_fill_153 : decode prog_11_method_10_code 153 = .ok (.iload_n 2, 1) := by decide +kernel
theorem d_Model_fill_154 : decode prog_11_method_10_code 154 = .ok (.isub, 1) := by decide +kernel
theorem d_Model_fill_155 : decode prog_11_method_10_code 155 = .ok (.imul, 1) := by decide +kernel
theorem d_Model_fill_156 : decode prog_11_method_10_code 156 = .ok (.ireturn, 1) := by decide +kernel
def q_mo_fill (cI : ClassId) (g0 : Nat) (g1 : Nat) (g2 : Nat) (g3 : Nat) (g4 : Nat) (g5 : Nat) (g6 : Nat) (g7 : Nat) (g8 : Nat) (g9 : Nat) (g10 : Nat) (g11 : Nat) (g12 : Nat) (g13 : Nat) (g14 : Nat) (g15 : Nat) (isz : Int32) (ith : Int32) (ico : Int32) (icl : Int32) (irw : Int32) (ibi : Int32) (ien : Int32) (itr : Int32) (ibl : Int32) (ile : Int32) (igr : Int32) (ibk : Int32) (ist : Int32) (ibr : Int32) (wd : Nat → Int32) (hg : Nat → Int32) (pix : Nat → Int32) (x : Nat) (y : Nat) (pw : Nat) (ph : Nat) (v : Int32) (g : Int32) (h : Int32) : Int32 → va_W → Prop := fun rr ww => rr = ((wd 0 - nI x) * (hg 0 - nI y)) ∧ ww = [(g0, .inr (9, [.ref g1, .ref g2, .ref g3, .ref g4, .ref g5, .ref g6, .ref g7, .ref g8, .ref g9, .ref g10, .ref g11, .ref g12, .ref g13, .ref g14, .ref g15, .int isz, .int 0, .int ico, .int icl, .int irw, .int ibi, .int ien, .int itr, .int ibl, .int ile, .int igr, .int ibk, .int ist, .int ibr])), (g1, .inl (cI, 4, .inl wd)), (g2, .inl (cI, 4, .inl hg)), (g3, .inl (cI, 576, .inl (flF pix x y v g h pw ph x)))]
set_option maxHeartbeats 4000000 in
set_option maxRecDepth 100000 in
theorem c_mo_fill (l : Launch) {D : va_G} {tys : List (ClassId × FieldType)} {cI : ClassId} (hcI : tys[0]? = some (cI, .int)) (g0 : Nat) (g1 : Nat) (g2 : Nat) (g3 : Nat) (g4 : Nat) (g5 : Nat) (g6 : Nat) (g7 : Nat) (g8 : Nat) (g9 : Nat) (g10 : Nat) (g11 : Nat) (g12 : Nat) (g13 : Nat) (g14 : Nat) (g15 : Nat) (isz : Int32) (ith : Int32) (ico : Int32) (icl : Int32) (irw : Int32) (ibi : Int32) (ien : Int32) (itr : Int32) (ibl : Int32) (ile : Int32) (igr : Int32) (ibk : Int32) (ist : Int32) (ibr : Int32) (wd : Nat → Int32) (hg : Nat → Int32) (pix : Nat → Int32) (x : Nat) (y : Nat) (pw : Nat) (ph : Nat) (v : Int32) (g : Int32) (h : Int32) (hvv : ¬ v < 0 ∧ ¬ 255 < v) (hgg : ¬ g < (-255) ∧ ¬ 255 < g) (hhh : ¬ h < (-255) ∧ ¬ 255 < h) (hwd : wd 0 = nI pw) (hhg : hg 0 = nI ph) (hx1 : x < pw) (hy1 : y < ph) (hpw : pw ≤ 12) (hph : ph ≤ 12) : CsI l D vwCl tys y_Model_fill ws_Model_fill ({ frames := 2, cells := 0, slots := 0, locals := 45 } : Room) [.ref g0, .int (nI x), .int (nI y), .int v, .int g, .int h] [(g0, .inr (9, [.ref g1, .ref g2, .ref g3, .ref g4, .ref g5, .ref g6, .ref g7, .ref g8, .ref g9, .ref g10, .ref g11, .ref g12, .ref g13, .ref g14, .ref g15, .int isz, .int ith, .int ico, .int icl, .int irw, .int ibi, .int ien, .int itr, .int ibl, .int ile, .int igr, .int ibk, .int ist, .int ibr])), (g1, .inl (cI, 4, .inl wd)), (g2, .inl (cI, 4, .inl hg)), (g3, .inl (cI, 576, .inl pix))] (q_mo_fill cI g0 g1 g2 g3 g4 g5 g6 g7 g8 g9 g10 g11 g12 g13 g14 g15 isz ith ico icl irw ibi ien itr ibl ile igr ibk ist ibr wd hg pix x y pw ph v g h) 0 0 := by
  intro sz
  refine Met.ofW (cc := prog_11_method_10_code) (maxL := 8) (ret := (some .int)) (by decide) rfl ?_
  intro p e s m args below meth c s₁ B hml hv
  obtain ⟨rfl, hsz, hP, hK, hD0, hN⟩ := hv
  have hx := B.exec
  have hb := B.bytes
  have hr := B.returns
  have hts := atoms_spec (ws := ws_Model_fill) B.pre
  have hown : s.vm.findClass "TileForgeModel" = some m.cls := findClass_of_methodNamed B.named
  have hlocks := B.notSynchronized
  subst hsz
  have hD := hD0.self (sz := s.heap.size)
  generalize hAe : va_A [(g0, .inr (9, [.ref g1, .ref g2, .ref g3, .ref g4, .ref g5, .ref g6, .ref g7, .ref g8, .ref g9, .ref g10, .ref g11, .ref g12, .ref g13, .ref g14, .ref g15, .int isz, .int ith, .int ico, .int icl, .int irw, .int ibi, .int ien, .int itr, .int ibl, .int ile, .int igr, .int ibk, .int ist, .int ibr])), (g1, .inl (cI, 4, .inl wd)), (g2, .inl (cI, 4, .inl hg)), (g3, .inl (cI, 576, .inl pix))] s.heap.size = A at hD ⊢
  have hA : ∀ q : Nat, s.heap.size ≤ q → A q := fun q h => by rw [← hAe]; exact Or.inr h
  have hS : va_S A s.heap s.heap [] := va_S.rf
  have hP : va_P D vwCl [(g0, .inr (9, [.ref g1, .ref g2, .ref g3, .ref g4, .ref g5, .ref g6, .ref g7, .ref g8, .ref g9, .ref g10, .ref g11, .ref g12, .ref g13, .ref g14, .ref g15, .int isz, .int ith, .int ico, .int icl, .int irw, .int ibi, .int ien, .int itr, .int ibl, .int ile, .int igr, .int ibk, .int ist, .int ibr])), (g1, .inl (cI, 4, .inl wd)), (g2, .inl (cI, 4, .inl hg)), (g3, .inl (cI, 576, .inl pix))] s.heap := hP
  have hl := lv_entry ([.ref g0, .int (nI x), .int (nI y), .int v, .int g, .int h]) (n := 8) (Nat.le_of_ble_eq_true rfl)
  rw [lg_entry_eq]
  generalize (lg_sl ([.ref g0, .int (nI x), .int (nI y), .int v, .int g, .int h]) ++ List.replicate (8 - (lg_sl ([.ref g0, .int (nI x), .int (nI y), .int v, .int g, .int h])).length) Slot.unset).toArray = ls at hl ⊢
  have hl : lv_has ls 8 [(0, .ref g0), (1, .int (nI x)), (2, .int (nI y)), (3, .int v), (4, .int g), (5, .int h)] := hl
  refine lv_iload_n hx hb d_Model_fill_0 rfl (lv_at hl 3 rfl) ?_
  refine lv_iconst (v := 0) hx hb d_Model_fill_1 (by decide) ?_
  refine lv_sipush (v := 255) hx hb d_Model_fill_2 (by decide) ?_
  refine cs_Si (As := [.int v, .int 0, .int 255]) (rest := []) (wr := [(g0, .inr (9, [.ref g1, .ref g2, .ref g3, .ref g4, .ref g5, .ref g6, .ref g7, .ref g8, .ref g9, .ref g10, .ref g11, .ref g12, .ref g13, .ref g14, .ref g15, .int isz, .int ith, .int ico, .int icl, .int irw, .int ibi, .int ien, .int itr, .int ibl, .int ile, .int igr, .int ibk, .int ist, .int ibr])), (g1, .inl (cI, 4, .inl wd)), (g2, .inl (cI, 4, .inl hg)), (g3, .inl (cI, 576, .inl pix))]) ⟨hx, hb, hml, hown, hts⟩ (c_mo_in l hcI v 0 255) (va_cwS 3 hts (cs_gS mw_350 mw_351 mw_349 mw_341) rfl rfl rfl hd_Model_in ⟨Nat.le_of_ble_eq_true rfl, Nat.le_of_ble_eq_true rfl⟩) hN hK hP hD hS hA [] [0, 1, 2, 3] rfl rfl rfl rfl (by decide) rfl rfl hl.1 (Nat.le_of_ble_eq_true rfl) d_Model_fill_5 ⟨Nat.le_of_ble_eq_true rfl, Nat.le_of_ble_eq_true rfl⟩ (fun r1 w1 H locs hw hP hD hS => ?_)
  obtain ⟨rfl, rfl⟩ := hw
  have hP : va_P D vwCl [(g0, .inr (9, [.ref g1, .ref g2, .ref g3, .ref g4, .ref g5, .ref g6, .ref g7, .ref g8, .ref g9, .ref g10, .ref g11, .ref g12, .ref g13, .ref g14, .ref g15, .int isz, .int ith, .int ico, .int icl, .int irw, .int ibi, .int ien, .int itr, .int ibl, .int ile, .int igr, .int ibk, .int ist, .int ibr])), (g1, .inl (cI, 4, .inl wd)), (g2, .inl (cI, 4, .inl hg)), (g3, .inl (cI, 576, .inl pix))] H := hP
  have hD : va_D A [(g0, .inr (9, [.ref g1, .ref g2, .ref g3, .ref g4, .ref g5, .ref g6, .ref g7, .ref g8, .ref g9, .ref g10, .ref g11, .ref g12, .ref g13, .ref g14, .ref g15, .int isz, .int ith, .int ico, .int icl, .int irw, .int ibi, .int ien, .int itr, .int ibl, .int ile, .int igr, .int ibk, .int ist, .int ibr])), (g1, .inl (cI, 4, .inl wd)), (g2, .inl (cI, 4, .inl hg)), (g3, .inl (cI, 576, .inl pix))] := hD
  refine lv_if_eq (tgt := 39) hx hb d_Model_fill_8 (by decide) (fun c_8 => ?_) (fun c_8 => ?_)
  · have c_8 := cs_b0 c_8
    exact absurd hvv c_8
  · have c_8 := cs_b1 c_8
    refine lv_iload hx hb d_Model_fill_11 (lv_at hl 4 rfl) ?_
    refine lv_sipush (v := (-255)) hx hb d_Model_fill_13 (by decide) ?_
    refine lv_sipush (v := 255) hx hb d_Model_fill_16 (by decide) ?_
    refine cs_Si (As := [.int g, .int (-255), .int 255]) (rest := []) (wr := [(g0, .inr (9, [.ref g1, .ref g2, .ref g3, .ref g4, .ref g5, .ref g6, .ref g7, .ref g8, .ref g9, .ref g10, .ref g11, .ref g12, .ref g13, .ref g14, .ref g15, .int isz, .int ith, .int ico, .int icl, .int irw, .int ibi, .int ien, .int itr, .int ibl, .int ile, .int igr, .int ibk, .int ist, .int ibr])), (g1, .inl (cI, 4, .inl wd)), (g2, .inl (cI, 4, .inl hg)), (g3, .inl (cI, 576, .inl pix))]) ⟨hx, hb, hml, hown, hts⟩ (c_mo_in l hcI g (-255) 255) (va_cwS 3 hts (cs_gS mw_350 mw_351 mw_349 mw_341) rfl rfl rfl hd_Model_in ⟨Nat.le_of_ble_eq_true rfl, Nat.le_of_ble_eq_true rfl⟩) hN hK hP hD hS hA [] [0, 1, 2, 3] rfl rfl rfl rfl (by decide) rfl rfl hl.1 (Nat.le_of_ble_eq_true rfl) d_Model_fill_19 ⟨Nat.le_of_ble_eq_true rfl, Nat.le_of_ble_eq_true rfl⟩ (fun r2 w1 H locs hw hP hD hS => ?_)
    obtain ⟨rfl, rfl⟩ := hw
    have hP : va_P D vwCl [(g0, .inr (9, [.ref g1, .ref g2, .ref g3, .ref g4, .ref g5, .ref g6, .ref g7, .ref g8, .ref g9, .ref g10, .ref g11, .ref g12, .ref g13, .ref g14, .ref g15, .int isz, .int ith, .int ico, .int icl, .int irw, .int ibi, .int ien, .int itr, .int ibl, .int ile, .int igr, .int ibk, .int ist, .int ibr])), (g1, .inl (cI, 4, .inl wd)), (g2, .inl (cI, 4, .inl hg)), (g3, .inl (cI, 576, .inl pix))] H := hP
    have hD : va_D A [(g0, .inr (9, [.ref g1, .ref g2, .ref g3, .ref g4, .ref g5, .ref g6, .ref g7, .ref g8, .ref g9, .ref g10, .ref g11, .ref g12, .ref g13, .ref g14, .ref g15, .int isz, .int ith, .int ico, .int icl, .int irw, .int ibi, .int ien, .int itr, .int ibl, .int ile, .int igr, .int ibk, .int ist, .int ibr])), (g1, .inl (cI, 4, .inl wd)), (g2, .inl (cI, 4, .inl hg)), (g3, .inl (cI, 576, .inl pix))] := hD
    refine lv_if_eq (tgt := 39) hx hb d_Model_fill_22 (by decide) (fun c_22 => ?_) (fun c_22 => ?_)
    · have c_22 := cs_b0 c_22
      exact absurd hgg c_22
    · have c_22 := cs_b1 c_22
      refine lv_iload hx hb d_Model_fill_25 (lv_at hl 5 rfl) ?_
      refine lv_sipush (v := (-255)) hx hb d_Model_fill_27 (by decide) ?_
      refine lv_sipush (v := 255) hx hb d_Model_fill_30 (by decide) ?_
      refine cs_Si (As := [.int h, .int (-255), .int 255]) (rest := []) (wr := [(g0, .inr (9, [.ref g1, .ref g2, .ref g3, .ref g4, .ref g5, .ref g6, .ref g7, .ref g8, .ref g9, .ref g10, .ref g11, .ref g12, .ref g13, .ref g14, .ref g15, .int isz, .int ith, .int ico, .int icl, .int irw, .int ibi, .int ien, .int itr, .int ibl, .int ile, .int igr, .int ibk, .int ist, .int ibr])), (g1, .inl (cI, 4, .inl wd)), (g2, .inl (cI, 4, .inl hg)), (g3, .inl (cI, 576, .inl pix))]) ⟨hx, hb, hml, hown, hts⟩ (c_mo_in l hcI h (-255) 255) (va_cwS 3 hts (cs_gS mw_350 mw_351 mw_349 mw_341) rfl rfl rfl hd_Model_in ⟨Nat.le_of_ble_eq_true rfl, Nat.le_of_ble_eq_true rfl⟩) hN hK hP hD hS hA [] [0, 1, 2, 3] rfl rfl rfl rfl (by decide) rfl rfl hl.1 (Nat.le_of_ble_eq_true rfl) d_Model_fill_33 ⟨Nat.le_of_ble_eq_true rfl, Nat.le_of_ble_eq_true rfl⟩ (fun r3 w1 H locs hw hP hD hS => ?_)
      obtain ⟨rfl, rfl⟩ := hw
      have hP : va_P D vwCl [(g0, .inr (9, [.ref g1, .ref g2, .ref g3, .ref g4, .ref g5, .ref g6, .ref g7, .ref g8, .ref g9, .ref g10, .ref g11, .ref g12, .ref g13, .ref g14, .ref g15, .int isz, .int ith, .int ico, .int icl, .int irw, .int ibi, .int ien, .int itr, .int ibl, .int ile, .int igr, .int ibk, .int ist, .int ibr])), (g1, .inl (cI, 4, .inl wd)), (g2, .inl (cI, 4, .inl hg)), (g3, .inl (cI, 576, .inl pix))] H := hP
      have hD : va_D A [(g0, .inr (9, [.ref g1, .ref g2, .ref g3, .ref g4, .ref g5, .ref g6, .ref g7, .ref g8, .ref g9, .ref g10, .ref g11, .ref g12, .ref g13, .ref g14, .ref g15, .int isz, .int ith, .int ico, .int icl, .int irw, .int ibi, .int ien, .int itr, .int ibl, .int ile, .int igr, .int ibk, .int ist, .int ibr])), (g1, .inl (cI, 4, .inl wd)), (g2, .inl (cI, 4, .inl hg)), (g3, .inl (cI, 576, .inl pix))] := hD
      refine lv_if_ne (tgt := 45) hx hb d_Model_fill_36 (by decide) (fun c_36 => ?_) (fun c_36 => ?_)
      · have c_36 := cs_b1 c_36
        refine lv_aload_n hx hb d_Model_fill_45 rfl (lv_at hl 0 rfl) ?_
        refine lv_iconst (v := 0) hx hb d_Model_fill_46 (by decide) ?_
        refine lv_iload_n hx hb d_Model_fill_47 rfl (lv_at hl 1 rfl) ?_
        refine lv_iload_n hx hb d_Model_fill_48 rfl (lv_at hl 2 rfl) ?_
        refine cs_Vi (As := [.int 0, .int (nI x), .int (nI y)]) (rest := []) (wr := [(g3, .inl (cI, 576, .inl pix))]) ⟨hx, hb, hml, hown, hts⟩ (c_mo_isIn l hcI g0 g1 g2 g3 g4 g5 g6 g7 g8 g9 g10 g11 g12 g13 g14 g15 isz ith ico icl irw ibi ien itr ibl ile igr ibk ist ibr wd hg 0 (nI x) (nI y) (by decide)) (cwV 3 hts (cs_gV mw_439 mw_440 mw_441 mw_349 mw_347) rfl rfl rfl ⟨rfl, hd_Model_isIn⟩ ⟨Nat.le_of_ble_eq_true rfl, Nat.le_of_ble_eq_true rfl⟩) hN hK hP hD hS hA [0, 1, 2] [3] rfl rfl rfl rfl (by decide) (ci := 9) rfl rfl rfl rfl rfl hl.1 (Nat.le_of_ble_eq_true rfl) d_Model_fill_49 ⟨Nat.le_of_ble_eq_true rfl, Nat.le_of_ble_eq_true rfl⟩ (fun r4 w1 H locs hw hP hD hS => ?_)
        obtain ⟨rfl, rfl⟩ := hw
        have hP : va_P D vwCl [(g3, .inl (cI, 576, .inl pix)), (g0, .inr (9, [.ref g1, .ref g2, .ref g3, .ref g4, .ref g5, .ref g6, .ref g7, .ref g8, .ref g9, .ref g10, .ref g11, .ref g12, .ref g13, .ref g14, .ref g15, .int isz, .int ith, .int ico, .int icl, .int irw, .int ibi, .int ien, .int itr, .int ibl, .int ile, .int igr, .int ibk, .int ist, .int ibr])), (g1, .inl (cI, 4, .inl wd)), (g2, .inl (cI, 4, .inl hg))] H := hP
        have hD : va_D A [(g3, .inl (cI, 576, .inl pix)), (g0, .inr (9, [.ref g1, .ref g2, .ref g3, .ref g4, .ref g5, .ref g6, .ref g7, .ref g8, .ref g9, .ref g10, .ref g11, .ref g12, .ref g13, .ref g14, .ref g15, .int isz, .int ith, .int ico, .int icl, .int irw, .int ibi, .int ien, .int itr, .int ibl, .int ile, .int igr, .int ibk, .int ist, .int ibr])), (g1, .inl (cI, 4, .inl wd)), (g2, .inl (cI, 4, .inl hg))] := hD
        refine lv_if_ne (tgt := 61) hx hb d_Model_fill_52 (by decide) (fun c_52 => ?_) (fun c_52 => ?_)
        · have c_52 := cs_b1 c_52
          refine lv_aload_n hx hb d_Model_fill_61 rfl (lv_at hl 0 rfl) ?_
          refine lv_iconst (v := 0) hx hb d_Model_fill_62 (by decide) ?_
          refine va_put (D := D) (ci := 9) (v := .int 0) (ty := .int) (C := "TileForgeModel") (T := T_Model) (N := 29) hx hb hts (cs_in in_Model) ty_Model tok_Model nm_Model hown hK hP hD hS 1 rfl rfl 16 (by decide) (hts _ (cs_m mw_343)) (fun _ h9 => h9) rfl (by decide +kernel) rfl rfl (Nat.le_of_ble_eq_true rfl) d_Model_fill_63 (fun H locs hP hD hS => ?_)
          have hP : va_P D vwCl [(g3, .inl (cI, 576, .inl pix)), (g0, .inr (9, [.ref g1, .ref g2, .ref g3, .ref g4, .ref g5, .ref g6, .ref g7, .ref g8, .ref g9, .ref g10, .ref g11, .ref g12, .ref g13, .ref g14, .ref g15, .int isz, .int 0, .int ico, .int icl, .int irw, .int ibi, .int ien, .int itr, .int ibl, .int ile, .int igr, .int ibk, .int ist, .int ibr])), (g1, .inl (cI, 4, .inl wd)), (g2, .inl (cI, 4, .inl hg))] H := hP
          have hD : va_D A [(g3, .inl (cI, 576, .inl pix)), (g0, .inr (9, [.ref g1, .ref g2, .ref g3, .ref g4, .ref g5, .ref g6, .ref g7, .ref g8, .ref g9, .ref g10, .ref g11, .ref g12, .ref g13, .ref g14, .ref g15, .int isz, .int 0, .int ico, .int icl, .int irw, .int ibi, .int ien, .int itr, .int ibl, .int ile, .int igr, .int ibk, .int ist, .int ibr])), (g1, .inl (cI, 4, .inl wd)), (g2, .inl (cI, 4, .inl hg))] := hD
          refine lv_iload_n hx hb d_Model_fill_66 rfl (lv_at hl 2 rfl) ?_
          refine lv_istore (lv' := [(6, .int (nI y)), (0, .ref g0), (1, .int (nI x)), (2, .int (nI y)), (3, .int v), (4, .int g), (5, .int h)]) hx hb d_Model_fill_67 hl (by decide) rfl (fun ls hl => ?_)
          have lp69 : ∀ (n : Nat) (jj : Nat) (f : Nat → Int32), (13 ≤ jj + n) → (y ≤ jj ∧ jj ≤ ph) → (f = flF pix x y v g h pw jj x) → ∀ (H : Heap) (locs : List Loc) (ls : Array Slot), va_P D vwCl [(g0, .inr (9, [.ref g1, .ref g2, .ref g3, .ref g4, .ref g5, .ref g6, .ref g7, .ref g8, .ref g9, .ref g10, .ref g11, .ref g12, .ref g13, .ref g14, .ref g15, .int isz, .int 0, .int ico, .int icl, .int irw, .int ibi, .int ien, .int itr, .int ibl, .int ile, .int igr, .int ibk, .int ist, .int ibr])), (g1, .inl (cI, 4, .inl wd)), (g2, .inl (cI, 4, .inl hg)), (g3, .inl (cI, 576, .inl f))] H → va_D A [(g0, .inr (9, [.ref g1, .ref g2, .ref g3, .ref g4, .ref g5, .ref g6, .ref g7, .ref g8, .ref g9, .ref g10, .ref g11, .ref g12, .ref g13, .ref g14, .ref g15, .int isz, .int 0, .int ico, .int icl, .int irw, .int ibi, .int ien, .int itr, .int ibl, .int ile, .int igr, .int ibk, .int ist, .int ibr])), (g1, .inl (cI, 4, .inl wd)), (g2, .inl (cI, 4, .inl hg)), (g3, .inl (cI, 576, .inl f))] → va_S A s.heap H locs → lv_has ls 8 [(0, .ref g0), (1, .int (nI x)), (2, .int (nI y)), (3, .int v), (4, .int g), (5, .int h), (6, .int (nI jj))] → W p l e ({ frames := 2, cells := 0, slots := 0, locals := 45 } : Room) s m ([.ref g0, .int (nI x), .int (nI y), .int v, .int g, .int h] : List Value).toArray below meth c H locs 0 0 (MQ below (va_Qi (q_mo_fill cI g0 g1 g2 g3 g4 g5 g6 g7 g8 g9 g10 g11 g12 g13 g14 g15 isz ith ico icl irw ibi ien itr ibl ile igr ibk ist ibr wd hg pix x y pw ph v g h) (cs_B D vwCl tys A) A) ([.ref g0, .int (nI x), .int (nI y), .int v, .int g, .int h] : List Value).toArray s 0 0 A) (F0 m 69 ls []) := by
            intro n
            induction n with
            | zero =>
              intro jj f hf hj hf2
              exact absurd hf (by omega)
            | succ n ih69 =>
              intro jj f hf hj hf2 H locs ls hP hD hS hl
              refine lv_iload hx hb d_Model_fill_69 (lv_at hl 6 rfl) ?_
              refine lv_aload_n hx hb d_Model_fill_71 rfl (lv_at hl 0 rfl) ?_
              refine va_get (D := D) (ci := 9) (v := .ref g2) (C := "TileForgeModel") (T := T_Model) (N := 29) hx hb hts (cs_in in_Model) hown hK hP 0 rfl rfl 1 (by decide) (hts _ (cs_m mw_352)) (fun _ h9 => h9) rfl d_Model_fill_72 ?_
              refine lv_iconst (v := 0) hx hb d_Model_fill_75 (by decide) ?_
              refine cs_iald (j := 0) hx hb hK hcI hP 2 rfl (rfl) (by decide) (by decide) d_Model_fill_76 ?_
              refine cs_top (y := nI ph) (hhg) ?_
              refine lv_icmp_ge (tgt := 139) hx hb d_Model_fill_77 (by decide) (fun c_77 => ?_) (fun c_77 => ?_)
              · have hj2 := (nI_leI (a := ph) (b := jj) (by omega) (by omega)).mp c_77
                have hj3 : jj = ph := by omega
                refine lv_aload_n hx hb d_Model_fill_139 rfl (lv_at hl 0 rfl) ?_
                refine va_get (D := D) (ci := 9) (v := .ref g1) (C := "TileForgeModel") (T := T_Model) (N := 29) hx hb hts (cs_in in_Model) hown hK hP 0 rfl rfl 0 (by decide) (hts _ (cs_m mw_348)) (fun _ h9 => h9) rfl d_Model_fill_140 ?_
                refine lv_iconst (v := 0) hx hb d_Model_fill_143 (by decide) ?_
                refine cs_iald (j := 0) hx hb hK hcI hP 1 rfl (rfl) (by decide) (by decide) d_Model_fill_144 ?_
                refine lv_iload_n hx hb d_Model_fill_145 rfl (lv_at hl 1 rfl) ?_
                refine lv_isub hx hb d_Model_fill_146 ?_
                refine lv_aload_n hx hb d_Model_fill_147 rfl (lv_at hl 0 rfl) ?_
                refine va_get (D := D) (ci := 9) (v := .ref g2) (C := "TileForgeModel") (T := T_Model) (N := 29) hx hb hts (cs_in in_Model) hown hK hP 0 rfl rfl 1 (by decide) (hts _ (cs_m mw_352)) (fun _ h9 => h9) rfl d_Model_fill_148 ?_
                refine lv_iconst (v := 0) hx hb d_Model_fill_151 (by decide) ?_
                refine cs_iald (j := 0) hx hb hK hcI hP 2 rfl (rfl) (by decide) (by decide) d_Model_fill_152 ?_
                refine lv_iload_n hx hb d_Model_fill_153 rfl (lv_at hl 2 rfl) ?_
                refine lv_isub hx hb d_Model_fill_154 ?_
                refine lv_imul hx hb d_Model_fill_155 ?_
                exact W.iret (v := (((wd 0) - (nI x)) * ((hg 0) - (nI y)))) hx hb hr (fun t ht hW => ⟨⟨(((wd 0) - (nI x)) * ((hg 0) - (nI y))), [(g0, .inr (9, [.ref g1, .ref g2, .ref g3, .ref g4, .ref g5, .ref g6, .ref g7, .ref g8, .ref g9, .ref g10, .ref g11, .ref g12, .ref g13, .ref g14, .ref g15, .int isz, .int 0, .int ico, .int icl, .int irw, .int ibi, .int ien, .int itr, .int ibl, .int ile, .int igr, .int ibk, .int ist, .int ibr])), (g1, .inl (cI, 4, .inl wd)), (g2, .inl (cI, 4, .inl hg)), (g3, .inl (cI, 576, .inl f))], rfl, ⟨(rfl), (by rw [hf2, hj3])⟩, by rw [ht]; exact hP, va_K.moved hW.alike hK, hD⟩, hS.F ht⟩) hS.2.2 d_Model_fill_156
              · have hj2 : jj < ph := Nat.not_le.mp (fun q => c_77 ((nI_leI (a := ph) (b := jj) (by omega) (by omega)).mpr q))
                refine lv_iload_n hx hb d_Model_fill_80 rfl (lv_at hl 1 rfl) ?_
                refine lv_istore (lv' := [(7, .int (nI x)), (0, .ref g0), (1, .int (nI x)), (2, .int (nI y)), (3, .int v), (4, .int g), (5, .int h), (6, .int (nI jj))]) hx hb d_Model_fill_81 hl (by decide) rfl (fun ls hl => ?_)
                have lp83 : ∀ (n : Nat) (ii : Nat) (f : Nat → Int32), (13 ≤ ii + n) → (x ≤ ii ∧ ii ≤ pw) → (f = flF pix x y v g h pw jj ii) → ∀ (H : Heap) (locs : List Loc) (ls : Array Slot), va_P D vwCl [(g0, .inr (9, [.ref g1, .ref g2, .ref g3, .ref g4, .ref g5, .ref g6, .ref g7, .ref g8, .ref g9, .ref g10, .ref g11, .ref g12, .ref g13, .ref g14, .ref g15, .int isz, .int 0, .int ico, .int icl, .int irw, .int ibi, .int ien, .int itr, .int ibl, .int ile, .int igr, .int ibk, .int ist, .int ibr])), (g1, .inl (cI, 4, .inl wd)), (g2, .inl (cI, 4, .inl hg)), (g3, .inl (cI, 576, .inl f))] H → va_D A [(g0, .inr (9, [.ref g1, .ref g2, .ref g3, .ref g4, .ref g5, .ref g6, .ref g7, .ref g8, .ref g9, .ref g10, .ref g11, .ref g12, .ref g13, .ref g14, .ref g15, .int isz, .int 0, .int ico, .int icl, .int irw, .int ibi, .int ien, .int itr, .int ibl, .int ile, .int igr, .int ibk, .int ist, .int ibr])), (g1, .inl (cI, 4, .inl wd)), (g2, .inl (cI, 4, .inl hg)), (g3, .inl (cI, 576, .inl f))] → va_S A s.heap H locs → lv_has ls 8 [(0, .ref g0), (1, .int (nI x)), (2, .int (nI y)), (3, .int v), (4, .int g), (5, .int h), (6, .int (nI jj)), (7, .int (nI ii))] → W p l e ({ frames := 2, cells := 0, slots := 0, locals := 45 } : Room) s m ([.ref g0, .int (nI x), .int (nI y), .int v, .int g, .int h] : List Value).toArray below meth c H locs 0 0 (MQ below (va_Qi (q_mo_fill cI g0 g1 g2 g3 g4 g5 g6 g7 g8 g9 g10 g11 g12 g13 g14 g15 isz ith ico icl irw ibi ien itr ibl ile igr ibk ist ibr wd hg pix x y pw ph v g h) (cs_B D vwCl tys A) A) ([.ref g0, .int (nI x), .int (nI y), .int v, .int g, .int h] : List Value).toArray s 0 0 A) (F0 m 83 ls []) := by
                  intro n
                  induction n with
                  | zero =>
                    intro ii f hf hi hf3
                    exact absurd hf (by omega)
                  | succ n ih83 =>
                    intro ii f hf hi hf3 H locs ls hP hD hS hl
                    refine lv_iload hx hb d_Model_fill_83 (lv_at hl 7 rfl) ?_
                    refine lv_aload_n hx hb d_Model_fill_85 rfl (lv_at hl 0 rfl) ?_
                    refine va_get (D := D) (ci := 9) (v := .ref g1) (C := "TileForgeModel") (T := T_Model) (N := 29) hx hb hts (cs_in in_Model) hown hK hP 0 rfl rfl 0 (by decide) (hts _ (cs_m mw_348)) (fun _ h9 => h9) rfl d_Model_fill_86 ?_
                    refine lv_iconst (v := 0) hx hb d_Model_fill_89 (by decide) ?_
                    refine cs_iald (j := 0) hx hb hK hcI hP 1 rfl (rfl) (by decide) (by decide) d_Model_fill_90 ?_
                    refine cs_top (y := nI pw) (hwd) ?_
                    refine lv_icmp_ge (tgt := 133) hx hb d_Model_fill_91 (by decide) (fun c_91 => ?_) (fun c_91 => ?_)
                    · have hi2 := (nI_leI (a := pw) (b := ii) (by omega) (by omega)).mp c_91
                      refine lv_iinc (v := nI (jj + 1)) (lv' := [(6, .int (nI (jj + 1))), (0, .ref g0), (1, .int (nI x)), (2, .int (nI y)), (3, .int v), (4, .int g), (5, .int h), (7, .int (nI ii))]) hx hb d_Model_fill_133 hl (k := 6) rfl (nI_1 _) (by decide) rfl (fun ls hl => ?_)
                      refine lv_goto (tgt := 69) hx hb d_Model_fill_136 (by decide) ?_
                      exact ih69 (jj + 1) f (by omega) (by omega) (by rw [hf3]; exact flF_r hi2) _ _ _ (hP.sub (ws' := [(g0, .inr (9, [.ref g1, .ref g2, .ref g3, .ref g4, .ref g5, .ref g6, .ref g7, .ref g8, .ref g9, .ref g10, .ref g11, .ref g12, .ref g13, .ref g14, .ref g15, .int isz, .int 0, .int ico, .int icl, .int irw, .int ibi, .int ien, .int itr, .int ibl, .int ile, .int igr, .int ibk, .int ist, .int ibr])), (g1, .inl (cI, 4, .inl wd)), (g2, .inl (cI, 4, .inl hg)), (g3, .inl (cI, 576, .inl f))]) [0, 1, 2, 3] rfl) (hD.sub (ws' := [(g0, .inr (9, [.ref g1, .ref g2, .ref g3, .ref g4, .ref g5, .ref g6, .ref g7, .ref g8, .ref g9, .ref g10, .ref g11, .ref g12, .ref g13, .ref g14, .ref g15, .int isz, .int 0, .int ico, .int icl, .int irw, .int ibi, .int ien, .int itr, .int ibl, .int ile, .int igr, .int ibk, .int ist, .int ibr])), (g1, .inl (cI, 4, .inl wd)), (g2, .inl (cI, 4, .inl hg)), (g3, .inl (cI, 576, .inl f))]) [0, 1, 2, 3] (by decide) rfl) hS (lv_sub hl [1, 2, 3, 4, 5, 6, 0] rfl)
                    · have hi2 : ii < pw := Nat.not_le.mp (fun q => c_91 ((nI_leI (a := pw) (b := ii) (by omega) (by omega)).mpr q))
                      refine lv_aload_n hx hb d_Model_fill_94 rfl (lv_at hl 0 rfl) ?_
                      refine va_get (D := D) (ci := 9) (v := .ref g3) (C := "TileForgeModel") (T := T_Model) (N := 29) hx hb hts (cs_in in_Model) hown hK hP 0 rfl rfl 2 (by decide) (hts _ (cs_m mw_354)) (fun _ h9 => h9) rfl d_Model_fill_95 ?_
                      refine lv_iconst (v := 0) hx hb d_Model_fill_98 (by decide) ?_
                      refine lv_iload hx hb d_Model_fill_99 (lv_at hl 7 rfl) ?_
                      refine lv_iload hx hb d_Model_fill_101 (lv_at hl 6 rfl) ?_
                      refine cs_Si (As := [.int 0, .int (nI ii), .int (nI jj)]) (rest := [.ref g3]) (wr := [(g0, .inr (9, [.ref g1, .ref g2, .ref g3, .ref g4, .ref g5, .ref g6, .ref g7, .ref g8, .ref g9, .ref g10, .ref g11, .ref g12, .ref g13, .ref g14, .ref g15, .int isz, .int 0, .int ico, .int icl, .int irw, .int ibi, .int ien, .int itr, .int ibl, .int ile, .int igr, .int ibk, .int ist, .int ibr])), (g1, .inl (cI, 4, .inl wd)), (g2, .inl (cI, 4, .inl hg)), (g3, .inl (cI, 576, .inl f))]) ⟨hx, hb, hml, hown, hts⟩ (c_mo_at l hcI 0 ii jj) (va_cwS 3 hts (cs_gS mw_355 mw_356 mw_349 mw_346) rfl rfl rfl hd_Model_at ⟨Nat.le_of_ble_eq_true rfl, Nat.le_of_ble_eq_true rfl⟩) hN hK hP hD hS hA [] [0, 1, 2, 3] rfl rfl rfl rfl (by decide) rfl rfl hl.1 (Nat.le_of_ble_eq_true rfl) d_Model_fill_103 ⟨Nat.le_of_ble_eq_true rfl, Nat.le_of_ble_eq_true rfl⟩ (fun r5 w1 H locs hw hP hD hS => ?_)
                      obtain ⟨rfl, rfl⟩ := hw
                      have hP : va_P D vwCl [(g0, .inr (9, [.ref g1, .ref g2, .ref g3, .ref g4, .ref g5, .ref g6, .ref g7, .ref g8, .ref g9, .ref g10, .ref g11, .ref g12, .ref g13, .ref g14, .ref g15, .int isz, .int 0, .int ico, .int icl, .int irw, .int ibi, .int ien, .int itr, .int ibl, .int ile, .int igr, .int ibk, .int ist, .int ibr])), (g1, .inl (cI, 4, .inl wd)), (g2, .inl (cI, 4, .inl hg)), (g3, .inl (cI, 576, .inl f))] H := hP
                      have hD : va_D A [(g0, .inr (9, [.ref g1, .ref g2, .ref g3, .ref g4, .ref g5, .ref g6, .ref g7, .ref g8, .ref g9, .ref g10, .ref g11, .ref g12, .ref g13, .ref g14, .ref g15, .int isz, .int 0, .int ico, .int icl, .int irw, .int ibi, .int ien, .int itr, .int ibl, .int ile, .int igr, .int ibk, .int ist, .int ibr])), (g1, .inl (cI, 4, .inl wd)), (g2, .inl (cI, 4, .inl hg)), (g3, .inl (cI, 576, .inl f))] := hD
                      refine lv_iload_n hx hb d_Model_fill_106 rfl (lv_at hl 3 rfl) ?_
                      refine lv_iload hx hb d_Model_fill_107 (lv_at hl 4 rfl) ?_
                      refine lv_iload hx hb d_Model_fill_109 (lv_at hl 7 rfl) ?_
                      refine lv_iload_n hx hb d_Model_fill_111 rfl (lv_at hl 1 rfl) ?_
                      refine lv_isub hx hb d_Model_fill_112 ?_
                      refine lv_imul hx hb d_Model_fill_113 ?_
                      refine lv_iadd hx hb d_Model_fill_114 ?_
                      refine lv_iload hx hb d_Model_fill_115 (lv_at hl 5 rfl) ?_
                      refine lv_iload hx hb d_Model_fill_117 (lv_at hl 6 rfl) ?_
                      refine lv_iload_n hx hb d_Model_fill_119 rfl (lv_at hl 2 rfl) ?_
                      refine lv_isub hx hb d_Model_fill_120 ?_
                      refine lv_imul hx hb d_Model_fill_121 ?_
                      refine lv_iadd hx hb d_Model_fill_122 ?_
                      refine cs_Si (As := [.int ((v + (g * ((nI ii) - (nI x)))) + (h * ((nI jj) - (nI y))))]) (rest := [.int (nI (144 * 0 + 12 * jj + ii)), .ref g3]) (wr := [(g0, .inr (9, [.ref g1, .ref g2, .ref g3, .ref g4, .ref g5, .ref g6, .ref g7, .ref g8, .ref g9, .ref g10, .ref g11, .ref g12, .ref g13, .ref g14, .ref g15, .int isz, .int 0, .int ico, .int icl, .int irw, .int ibi, .int ien, .int itr, .int ibl, .int ile, .int igr, .int ibk, .int ist, .int ibr])), (g1, .inl (cI, 4, .inl wd)), (g2, .inl (cI, 4, .inl hg)), (g3, .inl (cI, 576, .inl f))]) ⟨hx, hb, hml, hown, hts⟩ (c_mo_clip l hcI ((v + (g * ((nI ii) - (nI x)))) + (h * ((nI jj) - (nI y))))) (va_cwS 1 hts (cs_gS mw_367 mw_368 mw_349 mw_345) rfl rfl rfl hd_Model_clip ⟨Nat.le_of_ble_eq_true rfl, Nat.le_of_ble_eq_true rfl⟩) hN hK hP hD hS hA [] [0, 1, 2, 3] rfl rfl rfl rfl (by decide) rfl rfl hl.1 (Nat.le_of_ble_eq_true rfl) d_Model_fill_123 ⟨Nat.le_of_ble_eq_true rfl, Nat.le_of_ble_eq_true rfl⟩ (fun r6 w1 H locs hw hP hD hS => ?_)
                      obtain ⟨rfl, rfl⟩ := hw
                      have hP : va_P D vwCl [(g0, .inr (9, [.ref g1, .ref g2, .ref g3, .ref g4, .ref g5, .ref g6, .ref g7, .ref g8, .ref g9, .ref g10, .ref g11, .ref g12, .ref g13, .ref g14, .ref g15, .int isz, .int 0, .int ico, .int icl, .int irw, .int ibi, .int ien, .int itr, .int ibl, .int ile, .int igr, .int ibk, .int ist, .int ibr])), (g1, .inl (cI, 4, .inl wd)), (g2, .inl (cI, 4, .inl hg)), (g3, .inl (cI, 576, .inl f))] H := hP
                      have hD : va_D A [(g0, .inr (9, [.ref g1, .ref g2, .ref g3, .ref g4, .ref g5, .ref g6, .ref g7, .ref g8, .ref g9, .ref g10, .ref g11, .ref g12, .ref g13, .ref g14, .ref g15, .int isz, .int 0, .int ico, .int icl, .int irw, .int ibi, .int ien, .int itr, .int ibl, .int ile, .int igr, .int ibk, .int ist, .int ibr])), (g1, .inl (cI, 4, .inl wd)), (g2, .inl (cI, 4, .inl hg)), (g3, .inl (cI, 576, .inl f))] := hD
                      refine cs_iast (j := jj * 12 + ii) hx hb hK hcI hP hD hS 3 rfl (congrArg nI (by omega)) (by omega) (by decide) d_Model_fill_126 (fun H locs hP hD hS => ?_)
                      have hP : va_P D vwCl [(g0, .inr (9, [.ref g1, .ref g2, .ref g3, .ref g4, .ref g5, .ref g6, .ref g7, .ref g8, .ref g9, .ref g10, .ref g11, .ref g12, .ref g13, .ref g14, .ref g15, .int isz, .int 0, .int ico, .int icl, .int irw, .int ibi, .int ien, .int itr, .int ibl, .int ile, .int igr, .int ibk, .int ist, .int ibr])), (g1, .inl (cI, 4, .inl wd)), (g2, .inl (cI, 4, .inl hg)), (g3, .inl (cI, 576, .inl (upd f (jj * 12 + ii) (clip ((v + (g * ((nI ii) - (nI x)))) + (h * ((nI jj) - (nI y))))))))] H := hP
                      have hD : va_D A [(g0, .inr (9, [.ref g1, .ref g2, .ref g3, .ref g4, .ref g5, .ref g6, .ref g7, .ref g8, .ref g9, .ref g10, .ref g11, .ref g12, .ref g13, .ref g14, .ref g15, .int isz, .int 0, .int ico, .int icl, .int irw, .int ibi, .int ien, .int itr, .int ibl, .int ile, .int igr, .int ibk, .int ist, .int ibr])), (g1, .inl (cI, 4, .inl wd)), (g2, .inl (cI, 4, .inl hg)), (g3, .inl (cI, 576, .inl (upd f (jj * 12 + ii) (clip ((v + (g * ((nI ii) - (nI x)))) + (h * ((nI jj) - (nI y))))))))] := hD
                      refine lv_iinc (v := nI (ii + 1)) (lv' := [(7, .int (nI (ii + 1))), (0, .ref g0), (1, .int (nI x)), (2, .int (nI y)), (3, .int v), (4, .int g), (5, .int h), (6, .int (nI jj))]) hx hb d_Model_fill_127 hl (k := 7) rfl (nI_1 _) (by decide) rfl (fun ls hl => ?_)
                      refine lv_goto (tgt := 83) hx hb d_Model_fill_130 (by decide) ?_
                      exact ih83 (ii + 1) (upd f (jj * 12 + ii) (clip ((v + (g * ((nI ii) - (nI x)))) + (h * ((nI jj) - (nI y)))))) (by omega) (by omega) (by rw [hf3]; exact flF_s (by omega) (by omega) hpw (by omega) (by omega)) _ _ _ (hP.sub (ws' := [(g0, .inr (9, [.ref g1, .ref g2, .ref g3, .ref g4, .ref g5, .ref g6, .ref g7, .ref g8, .ref g9, .ref g10, .ref g11, .ref g12, .ref g13, .ref g14, .ref g15, .int isz, .int 0, .int ico, .int icl, .int irw, .int ibi, .int ien, .int itr, .int ibl, .int ile, .int igr, .int ibk, .int ist, .int ibr])), (g1, .inl (cI, 4, .inl wd)), (g2, .inl (cI, 4, .inl hg)), (g3, .inl (cI, 576, .inl (upd f (jj * 12 + ii) (clip ((v + (g * ((nI ii) - (nI x)))) + (h * ((nI jj) - (nI y))))))))]) [0, 1, 2, 3] rfl) (hD.sub (ws' := [(g0, .inr (9, [.ref g1, .ref g2, .ref g3, .ref g4, .ref g5, .ref g6, .ref g7, .ref g8, .ref g9, .ref g10, .ref g11, .ref g12, .ref g13, .ref g14, .ref g15, .int isz, .int 0, .int ico, .int icl, .int irw, .int ibi, .int ien, .int itr, .int ibl, .int ile, .int igr, .int ibk, .int ist, .int ibr])), (g1, .inl (cI, 4, .inl wd)), (g2, .inl (cI, 4, .inl hg)), (g3, .inl (cI, 576, .inl (upd f (jj * 12 + ii) (clip ((v + (g * ((nI ii) - (nI x)))) + (h * ((nI jj) - (nI y))))))))]) [0, 1, 2, 3] (by decide) rfl) hS (lv_sub hl [1, 2, 3, 4, 5, 6, 7, 0] rfl)
                exact lp83 (13) x f (by omega) (by omega) (hf2) _ _ _ (hP.sub (ws' := [(g0, .inr (9, [.ref g1, .ref g2, .ref g3, .ref g4, .ref g5, .ref g6, .ref g7, .ref g8, .ref g9, .ref g10, .ref g11, .ref g12, .ref g13, .ref g14, .ref g15, .int isz, .int 0, .int ico, .int icl, .int irw, .int ibi, .int ien, .int itr, .int ibl, .int ile, .int igr, .int ibk, .int ist, .int ibr])), (g1, .inl (cI, 4, .inl wd)), (g2, .inl (cI, 4, .inl hg)), (g3, .inl (cI, 576, .inl f))]) [0, 1, 2, 3] rfl) (hD.sub (ws' := [(g0, .inr (9, [.ref g1, .ref g2, .ref g3, .ref g4, .ref g5, .ref g6, .ref g7, .ref g8, .ref g9, .ref g10, .ref g11, .ref g12, .ref g13, .ref g14, .ref g15, .int isz, .int 0, .int ico, .int icl, .int irw, .int ibi, .int ien, .int itr, .int ibl, .int ile, .int igr, .int ibk, .int ist, .int ibr])), (g1, .inl (cI, 4, .inl wd)), (g2, .inl (cI, 4, .inl hg)), (g3, .inl (cI, 576, .inl f))]) [0, 1, 2, 3] (by decide) rfl) hS (lv_sub hl [1, 2, 3, 4, 5, 6, 7, 0] rfl)
          exact lp69 (13) y pix (by omega) (by omega) (flF_0.symm) _ _ _ (hP.sub (ws' := [(g0, .inr (9, [.ref g1, .ref g2, .ref g3, .ref g4, .ref g5, .ref g6, .ref g7, .ref g8, .ref g9, .ref g10, .ref g11, .ref g12, .ref g13, .ref g14, .ref g15, .int isz, .int 0, .int ico, .int icl, .int irw, .int ibi, .int ien, .int itr, .int ibl, .int ile, .int igr, .int ibk, .int ist, .int ibr])), (g1, .inl (cI, 4, .inl wd)), (g2, .inl (cI, 4, .inl hg)), (g3, .inl (cI, 576, .inl pix))]) [1, 2, 3, 0] rfl) (hD.sub (ws' := [(g0, .inr (9, [.ref g1, .ref g2, .ref g3, .ref g4, .ref g5, .ref g6, .ref g7, .ref g8, .ref g9, .ref g10, .ref g11, .ref g12, .ref g13, .ref g14, .ref g15, .int isz, .int 0, .int ico, .int icl, .int irw, .int ibi, .int ien, .int itr, .int ibl, .int ile, .int igr, .int ibk, .int ist, .int ibr])), (g1, .inl (cI, 4, .inl wd)), (g2, .inl (cI, 4, .inl hg)), (g3, .inl (cI, 576, .inl pix))]) [1, 2, 3, 0] (by decide) rfl) hS (lv_sub hl [1, 2, 3, 4, 5, 6, 0] rfl)
        · have c_52 := cs_b0 c_52
          exact absurd (cs_in2 hwd hx1 hpw hhg hy1 hph) c_52
      · have c_36 := cs_b0 c_36
        exact absurd hhh c_36
def q_mo_fillB (cI : ClassId) (g0 : Nat) (g1 : Nat) (g2 : Nat) (g3 : Nat) (g4 : Nat) (g5 : Nat) (g6 : Nat) (g7 : Nat) (g8 : Nat) (g9 : Nat) (g10 : Nat) (g11 : Nat) (g12 : Nat) (g13 : Nat) (g14 : Nat) (g15 : Nat) (isz : Int32) (ith : Int32) (ico : Int32) (icl : Int32) (irw : Int32) (ibi : Int32) (ien : Int32) (itr : Int32) (ibl : Int32) (ile : Int32) (igr : Int32) (ibk : Int32) (ist : Int32) (ibr : Int32) (x : Int32) (y : Int32) (v : Int32) (g : Int32) (h : Int32) : Int32 → va_W → Prop := fun rr ww => rr = (0) ∧ ww = [(g0, .inr (9, [.ref g1, .ref g2, .ref g3, .ref g4, .ref g5, .ref g6, .ref g7, .ref g8, .ref g9, .ref g10, .ref g11, .ref g12, .ref g13, .ref g14, .ref g15, .int isz, .int 1, .int ico, .int icl, .int irw, .int ibi, .int ien, .int itr, .int ibl, .int ile, .int igr, .int ibk, .int ist, .int ibr]))]
set_option maxHeartbeats 4000000 in
set_option maxRecDepth 100000 in
theorem c_mo_fillB (l : Launch) {D : va_G} {tys : List (ClassId × FieldType)} {cI : ClassId} (hcI : tys[0]? = some (cI, .int)) (g0 : Nat) (g1 : Nat) (g2 : Nat) (g3 : Nat) (g4 : Nat) (g5 : Nat) (g6 : Nat) (g7 : Nat) (g8 : Nat) (g9 : Nat) (g10 : Nat) (g11 : Nat) (g12 : Nat) (g13 : Nat) (g14 : Nat) (g15 : Nat) (isz : Int32) (ith : Int32) (ico : Int32) (icl : Int32) (irw : Int32) (ibi : Int32) (ien : Int32) (itr : Int32) (ibl : Int32) (ile : Int32) (igr : Int32) (ibk : Int32) (ist : Int32) (ibr : Int32) (x : Int32) (y : Int32) (v : Int32) (g : Int32) (h : Int32) (hbad : ¬ ((¬ v < 0 ∧ ¬ 255 < v) ∧ (¬ g < (-255) ∧ ¬ 255 < g) ∧ (¬ h < (-255) ∧ ¬ 255 < h))) : CsI l D vwCl tys y_Model_fill ws_Model_fill ({ frames := 1, cells := 0, slots := 0, locals := 22 } : Room) [.ref g0, .int x, .int y, .int v, .int g, .int h] [(g0, .inr (9, [.ref g1, .ref g2, .ref g3, .ref g4, .ref g5, .ref g6, .ref g7, .ref g8, .ref g9, .ref g10, .ref g11, .ref g12, .ref g13, .ref g14, .ref g15, .int isz, .int ith, .int ico, .int icl, .int irw, .int ibi, .int ien, .int itr, .int ibl, .int ile, .int igr, .int ibk, .int ist, .int ibr]))] (q_mo_fillB cI g0 g1 g2 g3 g4 g5 g6 g7 g8 g9 g10 g11 g12 g13 g14 g15 isz ith ico icl irw ibi ien itr ibl ile igr ibk ist ibr x y v g h) 0 0 := by
  intro sz
  refine Met.ofW (cc := prog_11_method_10_code) (maxL := 8) (ret := (some .int)) (by decide) rfl ?_
  intro p e s m args below meth c s₁ B hml hv
  obtain ⟨rfl, hsz, hP, hK, hD0, hN⟩ := hv
  have hx := B.exec
  have hb := B.bytes
  have hr := B.returns
  have hts := atoms_spec (ws := ws_Model_fill) B.pre
  have hown : s.vm.findClass "TileForgeModel" = some m.cls := findClass_of_methodNamed B.named
  have hlocks := B.notSynchronized
  subst hsz
  have hD := hD0.self (sz := s.heap.size)
  generalize hAe : va_A [(g0, .inr (9, [.ref g1, .ref g2, .ref g3, .ref g4, .ref g5, .ref g6, .ref g7, .ref g8, .ref g9, .ref g10, .ref g11, .ref g12, .ref g13, .ref g14, .ref g15, .int isz, .int ith, .int ico, .int icl, .int irw, .int ibi, .int ien, .int itr, .int ibl, .int ile, .int igr, .int ibk, .int ist, .int ibr]))] s.heap.size = A at hD ⊢
  have hA : ∀ q : Nat, s.heap.size ≤ q → A q := fun q h => by rw [← hAe]; exact Or.inr h
  have hS : va_S A s.heap s.heap [] := va_S.rf
  have hP : va_P D vwCl [(g0, .inr (9, [.ref g1, .ref g2, .ref g3, .ref g4, .ref g5, .ref g6, .ref g7, .ref g8, .ref g9, .ref g10, .ref g11, .ref g12, .ref g13, .ref g14, .ref g15, .int isz, .int ith, .int ico, .int icl, .int irw, .int ibi, .int ien, .int itr, .int ibl, .int ile, .int igr, .int ibk, .int ist, .int ibr]))] s.heap := hP
  have hl := lv_entry ([.ref g0, .int x, .int y, .int v, .int g, .int h]) (n := 8) (Nat.le_of_ble_eq_true rfl)
  rw [lg_entry_eq]
  generalize (lg_sl ([.ref g0, .int x, .int y, .int v, .int g, .int h]) ++ List.replicate (8 - (lg_sl ([.ref g0, .int x, .int y, .int v, .int g, .int h])).length) Slot.unset).toArray = ls at hl ⊢
  have hl : lv_has ls 8 [(0, .ref g0), (1, .int x), (2, .int y), (3, .int v), (4, .int g), (5, .int h)] := hl
  refine lv_iload_n hx hb d_Model_fill_0 rfl (lv_at hl 3 rfl) ?_
  refine lv_iconst (v := 0) hx hb d_Model_fill_1 (by decide) ?_
  refine lv_sipush (v := 255) hx hb d_Model_fill_2 (by decide) ?_
  refine cs_Si (As := [.int v, .int 0, .int 255]) (rest := []) (wr := [(g0, .inr (9, [.ref g1, .ref g2, .ref g3, .ref g4, .ref g5, .ref g6, .ref g7, .ref g8, .ref g9, .ref g10, .ref g11, .ref g12, .ref g13, .ref g14, .ref g15, .int isz, .int ith, .int ico, .int icl, .int irw, .int ibi, .int ien, .int itr, .int ibl, .int ile, .int igr, .int ibk, .int ist, .int ibr]))]) ⟨hx, hb, hml, hown, hts⟩ (c_mo_in l hcI v 0 255) (va_cwS 3 hts (cs_gS mw_350 mw_351 mw_349 mw_341) rfl rfl rfl hd_Model_in ⟨Nat.le_of_ble_eq_true rfl, Nat.le_of_ble_eq_true rfl⟩) hN hK hP hD hS hA [] [0] rfl rfl rfl rfl (by decide) rfl rfl hl.1 (Nat.le_of_ble_eq_true rfl) d_Model_fill_5 ⟨Nat.le_of_ble_eq_true rfl, Nat.le_of_ble_eq_true rfl⟩ (fun r1 w1 H locs hw hP hD hS => ?_)
  obtain ⟨rfl, rfl⟩ := hw
  have hP : va_P D vwCl [(g0, .inr (9, [.ref g1, .ref g2, .ref g3, .ref g4, .ref g5, .ref g6, .ref g7, .ref g8, .ref g9, .ref g10, .ref g11, .ref g12, .ref g13, .ref g14, .ref g15, .int isz, .int ith, .int ico, .int icl, .int irw, .int ibi, .int ien, .int itr, .int ibl, .int ile, .int igr, .int ibk, .int ist, .int ibr]))] H := hP
  have hD : va_D A [(g0, .inr (9, [.ref g1, .ref g2, .ref g3, .ref g4, .ref g5, .ref g6, .ref g7, .ref g8, .ref g9, .ref g10, .ref g11, .ref g12, .ref g13, .ref g14, .ref g15, .int isz, .int ith, .int ico, .int icl, .int irw, .int ibi, .int ien, .int itr, .int ibl, .int ile, .int igr, .int ibk, .int ist, .int ibr]))] := hD
  refine lv_if_eq (tgt := 39) hx hb d_Model_fill_8 (by decide) (fun c_8 => ?_) (fun c_8 => ?_)
  · have c_8 := cs_b0 c_8
    refine lv_aload_n hx hb d_Model_fill_39 rfl (lv_at hl 0 rfl) ?_
    refine lv_iconst (v := 1) hx hb d_Model_fill_40 (by decide) ?_
    refine cs_Vi (As := [.int 1]) (rest := []) (wr := []) ⟨hx, hb, hml, hown, hts⟩ (c_mo_fail l hcI g0 g1 g2 g3 g4 g5 g6 g7 g8 g9 g10 g11 g12 g13 g14 g15 isz ith ico icl irw ibi ien itr ibl ile igr ibk ist ibr 1) (cwV 1 hts (cs_gV mw_435 mw_436 mw_437 mw_349 mw_342) rfl rfl rfl ⟨rfl, hd_Model_fail⟩ ⟨Nat.le_of_ble_eq_true rfl, Nat.le_of_ble_eq_true rfl⟩) hN hK hP hD hS hA [0] [] rfl rfl rfl rfl (by decide) (ci := 9) rfl rfl rfl rfl rfl hl.1 (Nat.le_of_ble_eq_true rfl) d_Model_fill_41 ⟨Nat.le_of_ble_eq_true rfl, Nat.le_of_ble_eq_true rfl⟩ (fun r2 w1 H locs hw hP hD hS => ?_)
    obtain ⟨rfl, rfl⟩ := hw
    have hP : va_P D vwCl [(g0, .inr (9, [.ref g1, .ref g2, .ref g3, .ref g4, .ref g5, .ref g6, .ref g7, .ref g8, .ref g9, .ref g10, .ref g11, .ref g12, .ref g13, .ref g14, .ref g15, .int isz, .int 1, .int ico, .int icl, .int irw, .int ibi, .int ien, .int itr, .int ibl, .int ile, .int igr, .int ibk, .int ist, .int ibr]))] H := hP
    have hD : va_D A [(g0, .inr (9, [.ref g1, .ref g2, .ref g3, .ref g4, .ref g5, .ref g6, .ref g7, .ref g8, .ref g9, .ref g10, .ref g11, .ref g12, .ref g13, .ref g14, .ref g15, .int isz, .int 1, .int ico, .int icl, .int irw, .int ibi, .int ien, .int itr, .int ibl, .int ile, .int igr, .int ibk, .int ist, .int ibr]))] := hD
    exact W.iret (v := 0) hx hb hr (fun t ht hW => ⟨⟨0, [(g0, .inr (9, [.ref g1, .ref g2, .ref g3, .ref g4, .ref g5, .ref g6, .ref g7, .ref g8, .ref g9, .ref g10, .ref g11, .ref g12, .ref g13, .ref g14, .ref g15, .int isz, .int 1, .int ico, .int icl, .int irw, .int ibi, .int ien, .int itr, .int ibl, .int ile, .int igr, .int ibk, .int ist, .int ibr]))], rfl, ⟨(rfl), (rfl)⟩, by rw [ht]; exact hP, va_K.moved hW.alike hK, hD⟩, hS.F ht⟩) hS.2.2 d_Model_fill_44
  · have c_8 := cs_b1 c_8
    refine lv_iload hx hb d_Model_fill_11 (lv_at hl 4 rfl) ?_
    refine lv_sipush (v := (-255)) hx hb d_Model_fill_13 (by decide) ?_
    refine lv_sipush (v := 255) hx hb d_Model_fill_16 (by decide) ?_
    refine cs_Si (As := [.int g, .int (-255), .int 255]) (rest := []) (wr := [(g0, .inr (9, [.ref g1, .ref g2, .ref g3, .ref g4, .ref g5, .ref g6, .ref g7, .ref g8, .ref g9, .ref g10, .ref g11, .ref g12, .ref g13, .ref g14, .ref g15, .int isz, .int ith, .int ico, .int icl, .int irw, .int ibi, .int ien, .int itr, .int ibl, .int ile, .int igr, .int ibk, .int ist, .int ibr]))]) ⟨hx, hb, hml, hown, hts⟩ (c_mo_in l hcI g (-255) 255) (va_cwS 3 hts (cs_gS mw_350 mw_351 mw_349 mw_341) rfl rfl rfl hd_Model_in ⟨Nat.le_of_ble_eq_true rfl, Nat.le_of_ble_eq_true rfl⟩) hN hK hP hD hS hA [] [0] rfl rfl rfl rfl (by decide) rfl rfl hl.1 (Nat.le_of_ble_eq_true rfl) d_Model_fill_19 ⟨Nat.le_of_ble_eq_true rfl, Nat.le_of_ble_eq_true rfl⟩ (fun r3 w1 H locs hw hP hD hS => ?_)
    obtain ⟨rfl, rfl⟩ := hw
    have hP : va_P D vwCl [(g0, .inr (9, [.ref g1, .ref g2, .ref g3, .ref g4, .ref g5, .ref g6, .ref g7, .ref g8, .ref g9, .ref g10, .ref g11, .ref g12, .ref g13, .ref g14, .ref g15, .int isz, .int ith, .int ico, .int icl, .int irw, .int ibi, .int ien, .int itr, .int ibl, .int ile, .int igr, .int ibk, .int ist, .int ibr]))] H := hP
    have hD : va_D A [(g0, .inr (9, [.ref g1, .ref g2, .ref g3, .ref g4, .ref g5, .ref g6, .ref g7, .ref g8, .ref g9, .ref g10, .ref g11, .ref g12, .ref g13, .ref g14, .ref g15, .int isz, .int ith, .int ico, .int icl, .int irw, .int ibi, .int ien, .int itr, .int ibl, .int ile, .int igr, .int ibk, .int ist, .int ibr]))] := hD
    refine lv_if_eq (tgt := 39) hx hb d_Model_fill_22 (by decide) (fun c_22 => ?_) (fun c_22 => ?_)
    · have c_22 := cs_b0 c_22
      refine lv_aload_n hx hb d_Model_fill_39 rfl (lv_at hl 0 rfl) ?_
      refine lv_iconst (v := 1) hx hb d_Model_fill_40 (by decide) ?_
      refine cs_Vi (As := [.int 1]) (rest := []) (wr := []) ⟨hx, hb, hml, hown, hts⟩ (c_mo_fail l hcI g0 g1 g2 g3 g4 g5 g6 g7 g8 g9 g10 g11 g12 g13 g14 g15 isz ith ico icl irw ibi ien itr ibl ile igr ibk ist ibr 1) (cwV 1 hts (cs_gV mw_435 mw_436 mw_437 mw_349 mw_342) rfl rfl rfl ⟨rfl, hd_Model_fail⟩ ⟨Nat.le_of_ble_eq_true rfl, Nat.le_of_ble_eq_true rfl⟩) hN hK hP hD hS hA [0] [] rfl rfl rfl rfl (by decide) (ci := 9) rfl rfl rfl rfl rfl hl.1 (Nat.le_of_ble_eq_true rfl) d_Model_fill_41 ⟨Nat.le_of_ble_eq_true rfl, Nat.le_of_ble_eq_true rfl⟩ (fun r4 w1 H locs hw hP hD hS => ?_)
      obtain ⟨rfl, rfl⟩ := hw
      have hP : va_P D vwCl [(g0, .inr (9, [.ref g1, .ref g2, .ref g3, .ref g4, .ref g5, .ref g6, .ref g7, .ref g8, .ref g9, .ref g10, .ref g11, .ref g12, .ref g13, .ref g14, .ref g15, .int isz, .int 1, .int ico, .int icl, .int irw, .int ibi, .int ien, .int itr, .int ibl, .int ile, .int igr, .int ibk, .int ist, .int ibr]))] H := hP
      have hD : va_D A [(g0, .inr (9, [.ref g1, .ref g2, .ref g3, .ref g4, .ref g5, .ref g6, .ref g7, .ref g8, .ref g9, .ref g10, .ref g11, .ref g12, .ref g13, .ref g14, .ref g15, .int isz, .int 1, .int ico, .int icl, .int irw, .int ibi, .int ien, .int itr, .int ibl, .int ile, .int igr, .int ibk, .int ist, .int ibr]))] := hD
      exact W.iret (v := 0) hx hb hr (fun t ht hW => ⟨⟨0, [(g0, .inr (9, [.ref g1, .ref g2, .ref g3, .ref g4, .ref g5, .ref g6, .ref g7, .ref g8, .ref g9, .ref g10, .ref g11, .ref g12, .ref g13, .ref g14, .ref g15, .int isz, .int 1, .int ico, .int icl, .int irw, .int ibi, .int ien, .int itr, .int ibl, .int ile, .int igr, .int ibk, .int ist, .int ibr]))], rfl, ⟨(rfl), (rfl)⟩, by rw [ht]; exact hP, va_K.moved hW.alike hK, hD⟩, hS.F ht⟩) hS.2.2 d_Model_fill_44
    · have c_22 := cs_b1 c_22
      refine lv_iload hx hb d_Model_fill_25 (lv_at hl 5 rfl) ?_
      refine lv_sipush (v := (-255)) hx hb d_Model_fill_27 (by decide) ?_
      refine lv_sipush (v := 255) hx hb d_Model_fill_30 (by decide) ?_
      refine cs_Si (As := [.int h, .int (-255), .int 255]) (rest := []) (wr := [(g0, .inr (9, [.ref g1, .ref g2, .ref g3, .ref g4, .ref g5, .ref g6, .ref g7, .ref g8, .ref g9, .ref g10, .ref g11, .ref g12, .ref g13, .ref g14, .ref g15, .int isz, .int ith, .int ico, .int icl, .int irw, .int ibi, .int ien, .int itr, .int ibl, .int ile, .int igr, .int ibk, .int ist, .int ibr]))]) ⟨hx, hb, hml, hown, hts⟩ (c_mo_in l hcI h (-255) 255) (va_cwS 3 hts (cs_gS mw_350 mw_351 mw_349 mw_341) rfl rfl rfl hd_Model_in ⟨Nat.le_of_ble_eq_true rfl, Nat.le_of_ble_eq_true rfl⟩) hN hK hP hD hS hA [] [0] rfl rfl rfl rfl (by decide) rfl rfl hl.1 (Nat.le_of_ble_eq_true rfl) d_Model_fill_33 ⟨Nat.le_of_ble_eq_true rfl, Nat.le_of_ble_eq_true rfl⟩ (fun r5 w1 H locs hw hP hD hS => ?_)
      obtain ⟨rfl, rfl⟩ := hw
      have hP : va_P D vwCl [(g0, .inr (9, [.ref g1, .ref g2, .ref g3, .ref g4, .ref g5, .ref g6, .ref g7, .ref g8, .ref g9, .ref g10, .ref g11, .ref g12, .ref g13, .ref g14, .ref g15, .int isz, .int ith, .int ico, .int icl, .int irw, .int ibi, .int ien, .int itr, .int ibl, .int ile, .int igr, .int ibk, .int ist, .int ibr]))] H := hP
      have hD : va_D A [(g0, .inr (9, [.ref g1, .ref g2, .ref g3, .ref g4, .ref g5, .ref g6, .ref g7, .ref g8, .ref g9, .ref g10, .ref g11, .ref g12, .ref g13, .ref g14, .ref g15, .int isz, .int ith, .int ico, .int icl, .int irw, .int ibi, .int ien, .int itr, .int ibl, .int ile, .int igr, .int ibk, .int ist, .int ibr]))] := hD
      refine lv_if_ne (tgt := 45) hx hb d_Model_fill_36 (by decide) (fun c_36 => ?_) (fun c_36 => ?_)
      · have c_36 := cs_b1 c_36
        exact absurd ⟨c_8, c_22, c_36⟩ hbad
      · have c_36 := cs_b0 c_36
        refine lv_aload_n hx hb d_Model_fill_39 rfl (lv_at hl 0 rfl) ?_
        refine lv_iconst (v := 1) hx hb d_Model_fill_40 (by decide) ?_
        refine cs_Vi (As := [.int 1]) (rest := []) (wr := []) ⟨hx, hb, hml, hown, hts⟩ (c_mo_fail l hcI g0 g1 g2 g3 g4 g5 g6 g7 g8 g9 g10 g11 g12 g13 g14 g15 isz ith ico icl irw ibi ien itr ibl ile igr ibk ist ibr 1) (cwV 1 hts (cs_gV mw_435 mw_436 mw_437 mw_349 mw_342) rfl rfl rfl ⟨rfl, hd_Model_fail⟩ ⟨Nat.le_of_ble_eq_true rfl, Nat.le_of_ble_eq_true rfl⟩) hN hK hP hD hS hA [0] [] rfl rfl rfl rfl (by decide) (ci := 9) rfl rfl rfl rfl rfl hl.1 (Nat.le_of_ble_eq_true rfl) d_Model_fill_41 ⟨Nat.le_of_ble_eq_true rfl, Nat.le_of_ble_eq_true rfl⟩ (fun r6 w1 H locs hw hP hD hS => ?_)
        obtain ⟨rfl, rfl⟩ := hw
        have hP : va_P D vwCl [(g0, .inr (9, [.ref g1, .ref g2, .ref g3, .ref g4, .ref g5, .ref g6, .ref g7, .ref g8, .ref g9, .ref g10, .ref g11, .ref g12, .ref g13, .ref g14, .ref g15, .int isz, .int 1, .int ico, .int icl, .int irw, .int ibi, .int ien, .int itr, .int ibl, .int ile, .int igr, .int ibk, .int ist, .int ibr]))] H := hP
        have hD : va_D A [(g0, .inr (9, [.ref g1, .ref g2, .ref g3, .ref g4, .ref g5, .ref g6, .ref g7, .ref g8, .ref g9, .ref g10, .ref g11, .ref g12, .ref g13, .ref g14, .ref g15, .int isz, .int 1, .int ico, .int icl, .int irw, .int ibi, .int ien, .int itr, .int ibl, .int ile, .int igr, .int ibk, .int ist, .int ibr]))] := hD
        exact W.iret (v := 0) hx hb hr (fun t ht hW => ⟨⟨0, [(g0, .inr (9, [.ref g1, .ref g2, .ref g3, .ref g4, .ref g5, .ref g6, .ref g7, .ref g8, .ref g9, .ref g10, .ref g11, .ref g12, .ref g13, .ref g14, .ref g15, .int isz, .int 1, .int ico, .int icl, .int irw, .int ibi, .int ien, .int itr, .int ibl, .int ile, .int igr, .int ibk, .int ist, .int ibr]))], rfl, ⟨(rfl), (rfl)⟩, by rw [ht]; exact hP, va_K.moved hW.alike hK, hD⟩, hS.F ht⟩) hS.2.2 d_Model_fill_44
def q_mo_fillC (cI : ClassId) (g0 : Nat) (g1 : Nat) (g2 : Nat) (g3 : Nat) (g4 : Nat) (g5 : Nat) (g6 : Nat) (g7 : Nat) (g8 : Nat) (g9 : Nat) (g10 : Nat) (g11 : Nat) (g12 : Nat) (g13 : Nat) (g14 : Nat) (g15 : Nat) (isz : Int32) (ith : Int32) (ico : Int32) (icl : Int32) (irw : Int32) (ibi : Int32) (ien : Int32) (itr : Int32) (ibl : Int32) (ile : Int32) (igr : Int32) (ibk : Int32) (ist : Int32) (ibr : Int32) (wd : Nat → Int32) (hg : Nat → Int32) (x : Int32) (y : Int32) (v : Int32) (g : Int32) (h : Int32) : Int32 → va_W → Prop := fun rr ww => rr = (0) ∧ ww = [(g0, .inr (9, [.ref g1, .ref g2, .ref g3, .ref g4, .ref g5, .ref g6, .ref g7, .ref g8, .ref g9, .ref g10, .ref g11, .ref g12, .ref g13, .ref g14, .ref g15, .int isz, .int 2, .int ico, .int icl, .int irw, .int ibi, .int ien, .int itr, .int ibl, .int ile, .int igr, .int ibk, .int ist, .int ibr])), (g1, .inl (cI, 4, .inl wd)), (g2, .inl (cI, 4, .inl hg))]
set_option maxHeartbeats 4000000 in
set_option maxRecDepth 100000 in
theorem c_mo_fillC (l : Launch) {D : va_G} {tys : List (ClassId × FieldType)} {cI : ClassId} (hcI : tys[0]? = some (cI, .int)) (g0 : Nat) (g1 : Nat) (g2 : Nat) (g3 : Nat) (g4 : Nat) (g5 : Nat) (g6 : Nat) (g7 : Nat) (g8 : Nat) (g9 : Nat) (g10 : Nat) (g11 : Nat) (g12 : Nat) (g13 : Nat) (g14 : Nat) (g15 : Nat) (isz : Int32) (ith : Int32) (ico : Int32) (icl : Int32) (irw : Int32) (ibi : Int32) (ien : Int32) (itr : Int32) (ibl : Int32) (ile : Int32) (igr : Int32) (ibk : Int32) (ist : Int32) (ibr : Int32) (wd : Nat → Int32) (hg : Nat → Int32) (x : Int32) (y : Int32) (v : Int32) (g : Int32) (h : Int32) (hvv : ¬ v < 0 ∧ ¬ 255 < v) (hgg : ¬ g < (-255) ∧ ¬ 255 < g) (hhh : ¬ h < (-255) ∧ ¬ 255 < h) (hno : ¬ ((¬ x < 0 ∧ ¬ (wd 0) - 1 < x) ∧ (¬ y < 0 ∧ ¬ (hg 0) - 1 < y))) : CsI l D vwCl tys y_Model_fill ws_Model_fill ({ frames := 2, cells := 0, slots := 0, locals := 45 } : Room) [.ref g0, .int x, .int y, .int v, .int g, .int h] [(g0, .inr (9, [.ref g1, .ref g2, .ref g3, .ref g4, .ref g5, .ref g6, .ref g7, .ref g8, .ref g9, .ref g10, .ref g11, .ref g12, .ref g13, .ref g14, .ref g15, .int isz, .int ith, .int ico, .int icl, .int irw, .int ibi, .int ien, .int itr, .int ibl, .int ile, .int igr, .int ibk, .int ist, .int ibr])), (g1, .inl (cI, 4, .inl wd)), (g2, .inl (cI, 4, .inl hg))] (q_mo_fillC cI g0 g1 g2 g3 g4 g5 g6 g7 g8 g9 g10 g11 g12 g13 g14 g15 isz ith ico icl irw ibi ien itr ibl ile igr ibk ist ibr wd hg x y v g h) 0 0 := by
  intro sz
  refine Met.ofW (cc := prog_11_method_10_code) (maxL := 8) (ret := (some .int)) (by decide) rfl ?_
  intro p e s m args below meth c s₁ B hml hv
  obtain ⟨rfl, hsz, hP, hK, hD0, hN⟩ := hv
  have hx := B.exec
  have hb := B.bytes
  have hr := B.returns
  have hts := atoms_spec (ws := ws_Model_fill) B.pre
  have hown : s.vm.findClass "TileForgeModel" = some m.cls := findClass_of_methodNamed B.named
  have hlocks := B.notSynchronized
  subst hsz
  have hD := hD0.self (sz := s.heap.size)
  generalize hAe : va_A [(g0, .inr (9, [.ref g1, .ref g2, .ref g3, .ref g4, .ref g5, .ref g6, .ref g7, .ref g8, .ref g9, .ref g10, .ref g11, .ref g12, .ref g13, .ref g14, .ref g15, .int isz, .int ith, .int ico, .int icl, .int irw, .int ibi, .int ien, .int itr, .int ibl, .int ile, .int igr, .int ibk, .int ist, .int ibr])), (g1, .inl (cI, 4, .inl wd)), (g2, .inl (cI, 4, .inl hg))] s.heap.size = A at hD ⊢
  have hA : ∀ q : Nat, s.heap.size ≤ q → A q := fun q h => by rw [← hAe]; exact Or.inr h
  have hS : va_S A s.heap s.heap [] := va_S.rf
  have hP : va_P D vwCl [(g0, .inr (9, [.ref g1, .ref g2, .ref g3, .ref g4, .ref g5, .ref g6, .ref g7, .ref g8, .ref g9, .ref g10, .ref g11, .ref g12, .ref g13, .ref g14, .ref g15, .int isz, .int ith, .int ico, .int icl, .int irw, .int ibi, .int ien, .int itr, .int ibl, .int ile, .int igr, .int ibk, .int ist, .int ibr])), (g1, .inl (cI, 4, .inl wd)), (g2, .inl (cI, 4, .inl hg))] s.heap := hP
  have hl := lv_entry ([.ref g0, .int x, .int y, .int v, .int g, .int h]) (n := 8) (Nat.le_of_ble_eq_true rfl)
  rw [lg_entry_eq]
  generalize (lg_sl ([.ref g0, .int x, .int y, .int v, .int g, .int h]) ++ List.replicate (8 - (lg_sl ([.ref g0, .int x, .int y, .int v, .int g, .int h])).length) Slot.unset).toArray = ls at hl ⊢
  have hl : lv_has ls 8 [(0, .ref g0), (1, .int x), (2, .int y), (3, .int v), (4, .int g), (5, .int h)] := hl
  refine lv_iload_n hx hb d_Model_fill_0 rfl (lv_at hl 3 rfl) ?_
  refine lv_iconst (v := 0) hx hb d_Model_fill_1 (by decide) ?_
  refine lv_sipush (v := 255) hx hb d_Model_fill_2 (by decide) ?_
  refine cs_Si (As := [.int v, .int 0, .int 255]) (rest := []) (wr := [(g0, .inr (9, [.ref g1, .ref g2, .ref g3, .ref g4, .ref g5, .ref g6, .ref g7, .ref g8, .ref g9, .ref g10, .ref g11, .ref g12, .ref g13, .ref g14, .ref g15, .int isz, .int ith, .int ico, .int icl, .int irw, .int ibi, .int ien, .int itr, .int ibl, .int ile, .int igr, .int ibk, .int ist, .int ibr])), (g1, .inl (cI, 4, .inl wd)), (g2, .inl (cI, 4, .inl hg))]) ⟨hx, hb, hml, hown, hts⟩ (c_mo_in l hcI v 0 255) (va_cwS 3 hts (cs_gS mw_350 mw_351 mw_349 mw_341) rfl rfl rfl hd_Model_in ⟨Nat.le_of_ble_eq_true rfl, Nat.le_of_ble_eq_true rfl⟩) hN hK hP hD hS hA [] [0, 1, 2] rfl rfl rfl rfl (by decide) rfl rfl hl.1 (Nat.le_of_ble_eq_true rfl) d_Model_fill_5 ⟨Nat.le_of_ble_eq_true rfl, Nat.le_of_ble_eq_true rfl⟩ (fun r1 w1 H locs hw hP hD hS => ?_)
  obtain ⟨rfl, rfl⟩ := hw
  have hP : va_P D vwCl [(g0, .inr (9, [.ref g1, .ref g2, .ref g3, .ref g4, .ref g5, .ref g6, .ref g7, .ref g8, .ref g9, .ref g10, .ref g11, .ref g12, .ref g13, .ref g14, .ref g15, .int isz, .int ith, .int ico, .int icl, .int irw, .int ibi, .int ien, .int itr, .int ibl, .int ile, .int igr, .int ibk, .int ist, .int ibr])), (g1, .inl (cI, 4, .inl wd)), (g2, .inl (cI, 4, .inl hg))] H := hP
  have hD : va_D A [(g0, .inr (9, [.ref g1, .ref g2, .ref g3, .ref g4, .ref g5, .ref g6, .ref g7, .ref g8, .ref g9, .ref g10, .ref g11, .ref g12, .ref g13, .ref g14, .ref g15, .int isz, .int ith, .int ico, .int icl, .int irw, .int ibi, .int ien, .int itr, .int ibl, .int ile, .int igr, .int ibk, .int ist, .int ibr])), (g1, .inl (cI, 4, .inl wd)), (g2, .inl (cI, 4, .inl hg))] := hD
  refine lv_if_eq (tgt := 39) hx hb d_Model_fill_8 (by decide) (fun c_8 => ?_) (fun c_8 => ?_)
  · have c_8 := cs_b0 c_8
    exact absurd hvv c_8
  · have c_8 := cs_b1 c_8
    refine lv_iload hx hb d_Model_fill_11 (lv_at hl 4 rfl) ?_
    refine lv_sipush (v := (-255)) hx hb d_Model_fill_13 (by decide) ?_
    refine lv_sipush (v := 255) hx hb d_Model_fill_16 (by decide) ?_
    refine cs_Si (As := [.int g, .int (-255), .int 255]) (rest := []) (wr := [(g0, .inr (9, [.ref g1, .ref g2, .ref g3, .ref g4, .ref g5, .ref g6, .ref g7, .ref g8, .ref g9, .ref g10, .ref g11, .ref g12, .ref g13, .ref g14, .ref g15, .int isz, .int ith, .int ico, .int icl, .int irw, .int ibi, .int ien, .int itr, .int ibl, .int ile, .int igr, .int ibk, .int ist, .int ibr])), (g1, .inl (cI, 4, .inl wd)), (g2, .inl (cI, 4, .inl hg))]) ⟨hx, hb, hml, hown, hts⟩ (c_mo_in l hcI g (-255) 255) (va_cwS 3 hts (cs_gS mw_350 mw_351 mw_349 mw_341) rfl rfl rfl hd_Model_in ⟨Nat.le_of_ble_eq_true rfl, Nat.le_of_ble_eq_true rfl⟩) hN hK hP hD hS hA [] [0, 1, 2] rfl rfl rfl rfl (by decide) rfl rfl hl.1 (Nat.le_of_ble_eq_true rfl) d_Model_fill_19 ⟨Nat.le_of_ble_eq_true rfl, Nat.le_of_ble_eq_true rfl⟩ (fun r2 w1 H locs hw hP hD hS => ?_)
    obtain ⟨rfl, rfl⟩ := hw
    have hP : va_P D vwCl [(g0, .inr (9, [.ref g1, .ref g2, .ref g3, .ref g4, .ref g5, .ref g6, .ref g7, .ref g8, .ref g9, .ref g10, .ref g11, .ref g12, .ref g13, .ref g14, .ref g15, .int isz, .int ith, .int ico, .int icl, .int irw, .int ibi, .int ien, .int itr, .int ibl, .int ile, .int igr, .int ibk, .int ist, .int ibr])), (g1, .inl (cI, 4, .inl wd)), (g2, .inl (cI, 4, .inl hg))] H := hP
    have hD : va_D A [(g0, .inr (9, [.ref g1, .ref g2, .ref g3, .ref g4, .ref g5, .ref g6, .ref g7, .ref g8, .ref g9, .ref g10, .ref g11, .ref g12, .ref g13, .ref g14, .ref g15, .int isz, .int ith, .int ico, .int icl, .int irw, .int ibi, .int ien, .int itr, .int ibl, .int ile, .int igr, .int ibk, .int ist, .int ibr])), (g1, .inl (cI, 4, .inl wd)), (g2, .inl (cI, 4, .inl hg))] := hD
    refine lv_if_eq (tgt := 39) hx hb d_Model_fill_22 (by decide) (fun c_22 => ?_) (fun c_22 => ?_)
    · have c_22 := cs_b0 c_22
      exact absurd hgg c_22
    · have c_22 := cs_b1 c_22
      refine lv_iload hx hb d_Model_fill_25 (lv_at hl 5 rfl) ?_
      refine lv_sipush (v := (-255)) hx hb d_Model_fill_27 (by decide) ?_
      refine lv_sipush (v := 255) hx hb d_Model_fill_30 (by decide) ?_
      refine cs_Si (As := [.int h, .int (-255), .int 255]) (rest := []) (wr := [(g0, .inr (9, [.ref g1, .ref g2, .ref g3, .ref g4, .ref g5, .ref g6, .ref g7, .ref g8, .ref g9, .ref g10, .ref g11, .ref g12, .ref g13, .ref g14, .ref g15, .int isz, .int ith, .int ico, .int icl, .int irw, .int ibi, .int ien, .int itr, .int ibl, .int ile, .int igr, .int ibk, .int ist, .int ibr])), (g1, .inl (cI, 4, .inl wd)), (g2, .inl (cI, 4, .inl hg))]) ⟨hx, hb, hml, hown, hts⟩ (c_mo_in l hcI h (-255) 255) (va_cwS 3 hts (cs_gS mw_350 mw_351 mw_349 mw_341) rfl rfl rfl hd_Model_in ⟨Nat.le_of_ble_eq_true rfl, Nat.le_of_ble_eq_true rfl⟩) hN hK hP hD hS hA [] [0, 1, 2] rfl rfl rfl rfl (by decide) rfl rfl hl.1 (Nat.le_of_ble_eq_true rfl) d_Model_fill_33 ⟨Nat.le_of_ble_eq_true rfl, Nat.le_of_ble_eq_true rfl⟩ (fun r3 w1 H locs hw hP hD hS => ?_)
      obtain ⟨rfl, rfl⟩ := hw
      have hP : va_P D vwCl [(g0, .inr (9, [.ref g1, .ref g2, .ref g3, .ref g4, .ref g5, .ref g6, .ref g7, .ref g8, .ref g9, .ref g10, .ref g11, .ref g12, .ref g13, .ref g14, .ref g15, .int isz, .int ith, .int ico, .int icl, .int irw, .int ibi, .int ien, .int itr, .int ibl, .int ile, .int igr, .int ibk, .int ist, .int ibr])), (g1, .inl (cI, 4, .inl wd)), (g2, .inl (cI, 4, .inl hg))] H := hP
      have hD : va_D A [(g0, .inr (9, [.ref g1, .ref g2, .ref g3, .ref g4, .ref g5, .ref g6, .ref g7, .ref g8, .ref g9, .ref g10, .ref g11, .ref g12, .ref g13, .ref g14, .ref g15, .int isz, .int ith, .int ico, .int icl, .int irw, .int ibi, .int ien, .int itr, .int ibl, .int ile, .int igr, .int ibk, .int ist, .int ibr])), (g1, .inl (cI, 4, .inl wd)), (g2, .inl (cI, 4, .inl hg))] := hD
      refine lv_if_ne (tgt := 45) hx hb d_Model_fill_36 (by decide) (fun c_36 => ?_) (fun c_36 => ?_)
      · have c_36 := cs_b1 c_36
        refine lv_aload_n hx hb d_Model_fill_45 rfl (lv_at hl 0 rfl) ?_
        refine lv_iconst (v := 0) hx hb d_Model_fill_46 (by decide) ?_
        refine lv_iload_n hx hb d_Model_fill_47 rfl (lv_at hl 1 rfl) ?_
        refine lv_iload_n hx hb d_Model_fill_48 rfl (lv_at hl 2 rfl) ?_
        refine cs_Vi (As := [.int 0, .int x, .int y]) (rest := []) (wr := []) ⟨hx, hb, hml, hown, hts⟩ (c_mo_isIn l hcI g0 g1 g2 g3 g4 g5 g6 g7 g8 g9 g10 g11 g12 g13 g14 g15 isz ith ico icl irw ibi ien itr ibl ile igr ibk ist ibr wd hg 0 x y (by decide)) (cwV 3 hts (cs_gV mw_439 mw_440 mw_441 mw_349 mw_347) rfl rfl rfl ⟨rfl, hd_Model_isIn⟩ ⟨Nat.le_of_ble_eq_true rfl, Nat.le_of_ble_eq_true rfl⟩) hN hK hP hD hS hA [0, 1, 2] [] rfl rfl rfl rfl (by decide) (ci := 9) rfl rfl rfl rfl rfl hl.1 (Nat.le_of_ble_eq_true rfl) d_Model_fill_49 ⟨Nat.le_of_ble_eq_true rfl, Nat.le_of_ble_eq_true rfl⟩ (fun r4 w1 H locs hw hP hD hS => ?_)
        obtain ⟨rfl, rfl⟩ := hw
        have hP : va_P D vwCl [(g0, .inr (9, [.ref g1, .ref g2, .ref g3, .ref g4, .ref g5, .ref g6, .ref g7, .ref g8, .ref g9, .ref g10, .ref g11, .ref g12, .ref g13, .ref g14, .ref g15, .int isz, .int ith, .int ico, .int icl, .int irw, .int ibi, .int ien, .int itr, .int ibl, .int ile, .int igr, .int ibk, .int ist, .int ibr])), (g1, .inl (cI, 4, .inl wd)), (g2, .inl (cI, 4, .inl hg))] H := hP
        have hD : va_D A [(g0, .inr (9, [.ref g1, .ref g2, .ref g3, .ref g4, .ref g5, .ref g6, .ref g7, .ref g8, .ref g9, .ref g10, .ref g11, .ref g12, .ref g13, .ref g14, .ref g15, .int isz, .int ith, .int ico, .int icl, .int irw, .int ibi, .int ien, .int itr, .int ibl, .int ile, .int igr, .int ibk, .int ist, .int ibr])), (g1, .inl (cI, 4, .inl wd)), (g2, .inl (cI, 4, .inl hg))] := hD
        refine lv_if_ne (tgt := 61) hx hb d_Model_fill_52 (by decide) (fun c_52 => ?_) (fun c_52 => ?_)
        · have c_52 := cs_b1 c_52
          exact absurd c_52 hno
        · have c_52 := cs_b0 c_52
          refine lv_aload_n hx hb d_Model_fill_55 rfl (lv_at hl 0 rfl) ?_
          refine lv_iconst (v := 2) hx hb d_Model_fill_56 (by decide) ?_
          refine cs_Vi (As := [.int 2]) (rest := []) (wr := [(g1, .inl (cI, 4, .inl wd)), (g2, .inl (cI, 4, .inl hg))]) ⟨hx, hb, hml, hown, hts⟩ (c_mo_fail l hcI g0 g1 g2 g3 g4 g5 g6 g7 g8 g9 g10 g11 g12 g13 g14 g15 isz ith ico icl irw ibi ien itr ibl ile igr ibk ist ibr 2) (cwV 1 hts (cs_gV mw_435 mw_436 mw_437 mw_349 mw_342) rfl rfl rfl ⟨rfl, hd_Model_fail⟩ ⟨Nat.le_of_ble_eq_true rfl, Nat.le_of_ble_eq_true rfl⟩) hN hK hP hD hS hA [0] [1, 2] rfl rfl rfl rfl (by decide) (ci := 9) rfl rfl rfl rfl rfl hl.1 (Nat.le_of_ble_eq_true rfl) d_Model_fill_57 ⟨Nat.le_of_ble_eq_true rfl, Nat.le_of_ble_eq_true rfl⟩ (fun r5 w1 H locs hw hP hD hS => ?_)
          obtain ⟨rfl, rfl⟩ := hw
          have hP : va_P D vwCl [(g1, .inl (cI, 4, .inl wd)), (g2, .inl (cI, 4, .inl hg)), (g0, .inr (9, [.ref g1, .ref g2, .ref g3, .ref g4, .ref g5, .ref g6, .ref g7, .ref g8, .ref g9, .ref g10, .ref g11, .ref g12, .ref g13, .ref g14, .ref g15, .int isz, .int 2, .int ico, .int icl, .int irw, .int ibi, .int ien, .int itr, .int ibl, .int ile, .int igr, .int ibk, .int ist, .int ibr]))] H := hP
          have hD : va_D A [(g1, .inl (cI, 4, .inl wd)), (g2, .inl (cI, 4, .inl hg)), (g0, .inr (9, [.ref g1, .ref g2, .ref g3, .ref g4, .ref g5, .ref g6, .ref g7, .ref g8, .ref g9, .ref g10, .ref g11, .ref g12, .ref g13, .ref g14, .ref g15, .int isz, .int 2, .int ico, .int icl, .int irw, .int ibi, .int ien, .int itr, .int ibl, .int ile, .int igr, .int ibk, .int ist, .int ibr]))] := hD
          have hP := hP.sub (ws' := [(g0, .inr (9, [.ref g1, .ref g2, .ref g3, .ref g4, .ref g5, .ref g6, .ref g7, .ref g8, .ref g9, .ref g10, .ref g11, .ref g12, .ref g13, .ref g14, .ref g15, .int isz, .int 2, .int ico, .int icl, .int irw, .int ibi, .int ien, .int itr, .int ibl, .int ile, .int igr, .int ibk, .int ist, .int ibr])), (g1, .inl (cI, 4, .inl wd)), (g2, .inl (cI, 4, .inl hg))]) [2, 0, 1] rfl
          have hD := hD.sub (ws' := [(g0, .inr (9, [.ref g1, .ref g2, .ref g3, .ref g4, .ref g5, .ref g6, .ref g7, .ref g8, .ref g9, .ref g10, .ref g11, .ref g12, .ref g13, .ref g14, .ref g15, .int isz, .int 2, .int ico, .int icl, .int irw, .int ibi, .int ien, .int itr, .int ibl, .int ile, .int igr, .int ibk, .int ist, .int ibr])), (g1, .inl (cI, 4, .inl wd)), (g2, .inl (cI, 4, .inl hg))]) [2, 0, 1] (by decide) rfl
          exact W.iret (v := 0) hx hb hr (fun t ht hW => ⟨⟨0, [(g0, .inr (9, [.ref g1, .ref g2, .ref g3, .ref g4, .ref g5, .ref g6, .ref g7, .ref g8, .ref g9, .ref g10, .ref g11, .ref g12, .ref g13, .ref g14, .ref g15, .int isz, .int 2, .int ico, .int icl, .int irw, .int ibi, .int ien, .int itr, .int ibl, .int ile, .int igr, .int ibk, .int ist, .int ibr])), (g1, .inl (cI, 4, .inl wd)), (g2, .inl (cI, 4, .inl hg))], rfl, ⟨(rfl), (rfl)⟩, by rw [ht]; exact hP, va_K.moved hW.alike hK, hD⟩, hS.F ht⟩) hS.2.2 d_Model_fill_60
      · have c_36 := cs_b0 c_36
        exact absurd hhh c_36
