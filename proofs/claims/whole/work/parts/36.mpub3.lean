def y_Model_apart : MethodName := ⟨"TileForgeModel", "apart", "(II)D"⟩
def ws_Model_apart : List Cond := .code y_Model_apart prog_11_method_34_code 9 (some .double) :: GW
theorem mw_454 : (.code ⟨"TileForgeModel", "apart", "(II)D"⟩ prog_11_method_34_code 9 (some .double) : Cond) ∈ GW := List.mem_filter.mpr ⟨(List.mem_append_right _ (List.mem_append_right _ (List.mem_append_right _ (List.mem_append_right _ (List.mem_of_getElem? (i := 175) rfl))))), rfl⟩
theorem hd_Model_apart : y_Model_apart.cls ≠ "java/lang/invoke/MethodHandle" ∧ y_Model_apart.cls ≠ "java/lang/invoke/VarHandle" ∧ (parseMethodDescriptor y_Model_apart.desc).map (fun d => d.parameters.length) = some 2 := by decide +kernel
theorem d_Model_apart_0 : decode prog_11_method_34_code 0 = .ok (.iload_n 1, 1) := by decide +kernel
theorem d_Model_apart_1 : decode prog_11_method_34_code 1 = .ok (.iconst 0, 1) := by decide +kernel
theorem d_Model_apart_2 : decode prog_11_method_34_code 2 = .ok (.iconst 2, 1) := by decide +kernel
theorem d_Model_apart_3 : decode prog_11_method_34_code 3 = .ok (.invokestatic 64, 3) := by decide +kernel
theorem d_Model_apart_6 : decode prog_11_method_34_code 6 = .ok (.ifCond .eq 16, 3) := by decide +kernel
theorem d_Model_apart_9 : decode prog_11_method_34_code 9 = .ok (.iload_n 2, 1) := by decide +kernel
theorem d_Model_apart_10 : decode prog_11_method_34_code 10 = .ok (.iconst 0, 1) := by decide +kernel
theorem d_Model_apart_11 : decode prog_11_method_34_code 11 = .ok (.iconst 2, 1) := by decide +kernel
theorem d_Model_apart_12 : decode prog_11_method_34_code 12 = .ok (.invokestatic 64, 3) := by decide +kernel
theorem d_Model_apart_15 : decode prog_11_method_34_code 15 = .ok (.ifCond .eq 7, 3) := by decide +kernel
theorem d_Model_apart_18 : decode prog_11_method_34_code 18 = .ok (.iconst 1, 1) := by decide +kernel
theorem d_Model_apart_19 : decode prog_11_method_34_code 19 = .ok (.goto 4, 3) := by decide +kernel
theorem d_Model_apart_22 : decode prog_11_method_34_code 22 = .ok (.iconst 0, 1) := by decide +kernel
theorem d_Model_apart_23 : decode prog_11_method_34_code 23 = .ok (.istore_n 3, 1) := by decide +kernel
theorem d_Model_apart_24 : decode prog_11_method_34_code 24 = .ok (.aload_n 0, 1) := by decide +kernel
theorem d_Model_apart_25 : decode prog_11_method_34_code 25 = .ok (.iload_n 3, 1) := by decide +kernel
theorem d_Model_apart_26 : decode prog_11_method_34_code 26 = .ok (.ifCond .ne 7, 3) := by decide +kernel
theorem d_Model_apart_29 : decode prog_11_method_34_code 29 = .ok (.iconst 1, 1) := by decide +kernel
theorem d_Model_apart_30 : decode prog_11_method_34_code 30 = .ok (.goto 60, 3) := by decide +kernel
theorem d_Model_apart_33 : decode prog_11_method_34_code 33 = .ok (.aload_n 0, 1) := by decide +kernel
theorem d_Model_apart_34 : decode prog_11_method_34_code 34 = .ok (.getfield 52, 3) := by decide +kernel
theorem d_Model_apart_37 : decode prog_11_method_34_code 37 = .ok (.iload_n 1, 1) := by decide +kernel
theorem d_Model_apart_38 : decode prog_11_method_34_code 38 = .ok (.baload, 1) := by decide +kernel
theorem d_Model_apart_39 : decode prog_11_method_34_code 39 = .ok (.ifCond .eq 12, 3) := by decide +kernel
theorem d_Model_apart_42 : decode prog_11_method_34_code 42 = .ok (.aload_n 0, 1) := by decide +kernel
theorem d_Model_apart_43 : decode prog_11_method_34_code 43 = .ok (.getfield 52, 3) := by decide +kernel
theorem d_Model_apart_46 : decode prog_11_method_34_code 46 = .ok (.iload_n 2, 1) := by decide +kernel
theorem d_Model_apart_47 : decode prog_11_method_34_code 47 = .ok (.baload, 1) := by decide +kernel
theorem d_Model_apart_48 : decode prog_11_method_34_code 48 = .ok (.ifCond .ne 7, 3) := by decide +kernel
theorem d_Model_apart_51 : decode prog_11_method_34_code 51 = .ok (.iconst 2, 1) := by decide +kernel
theorem d_Model_apart_52 : decode prog_11_method_34_code 52 = .ok (.goto 38, 3) := by decide +kernel
theorem d_Model_apart_55 : decode prog_11_method_34_code 55 = .ok (.aload_n 0, 1) := by decide +kernel
theorem d_Model_apart_56 : decode prog_11_method_34_code 56 = .ok (.getfield 7, 3) := by decide +kernel
theorem d_Model_apart_59 : decode prog_11_method_34_code 59 = .ok (.iload_n 1, 1) := by decide +kernel
theorem d_Model_apart_60 : decode prog_11_method_34_code 60 = .ok (.iaload, 1) := by decide +kernel
theorem d_Model_apart_61 : decode prog_11_method_34_code 61 = .ok (.aload_n 0, 1) := by decide +kernel
theorem d_Model_apart_62 : decode prog_11_method_34_code 62 = .ok (.getfield 7, 3) := by decide +kernel
theorem d_Model_apart_65 : decode prog_11_method_34_code 65 = .ok (.iload_n 2, 1) := by decide +kernel
theorem d_Model_apart_66 : decode prog_11_method_34_code 66 = .ok (.iaload, 1) := by decide +kernel
theorem d_Model_apart_67 : decode prog_11_method_34_code 67 = .ok (.if_icmp .ne 18, 3) := by decide +kernel
theorem d_Model_apart_70 : decode prog_11_method_34_code 70 = .ok (.aload_n 0, 1) := by decide +kernel
theorem d_Model_apart_71 : decode prog_11_method_34_code 71 = .ok (.getfield 13, 3) := by decide +kernel
theorem d_Model_apart_74 : decode prog_11_method_34_code 74 = .ok (.iload_n 1, 1) := by decide +kernel
theorem d_Model_apart_75 : decode prog_11_method_34_code 75 = .ok (.iaload, 1) := by decide +kernel
theorem d_Model_apart_76 : decode prog_11_method_34_code 76 = .ok (.aload_n 0, 1) := by decide +kernel
theorem d_Model_apart_77 : decode prog_11_method_34_code 77 = .ok (.getfield 13, 3) := by decide +kernel
theorem d_Model_apart_80 : decode prog_11_method_34_code 80 = .ok (.iload_n 2, 1) := by decide +kernel
theorem d_Model_apart_81 : decode prog_11_method_34_code 81 = .ok (.iaload, 1) := by decide +kernel
theorem d_Model_apart_82 : decode prog_11_method_34_code 82 = .ok (.if_icmp .eq 7, 3) := by decide +kernel
theorem d_Model_apart_85 : decode prog_11_method_34_code 85 = .ok (.iconst 3, 1) := by decide +kernel
theorem d_Model_apart_86 : decode prog_11_method_34_code 86 = .ok (.goto 4, 3) := by decide +kernel
theorem d_Model_apart_89 : decode prog_11_method_34_code 89 = .ok (.iconst 0, 1) := by decide +kernel
theorem d_Model_apart_90 : decode prog_11_method_34_code 90 = .ok (.putfield 56, 3) := by decide +kernel
theorem d_Model_apart_93 : decode prog_11_method_34_code 93 = .ok (.aload_n 0, 1) := by decide +kernel
theorem d_Model_apart_94 : decode prog_11_method_34_code 94 = .ok (.getfield 56, 3) := by decide +kernel
theorem d_Model_apart_97 : decode prog_11_method_34_code 97 = .ok (.ifCond .le 5, 3) := by decide +kernel
theorem d_Model_apart_100 : decode prog_11_method_34_code 100 = .ok (.dconst 0, 1) := by decide +kernel
theorem d_Model_apart_101 : decode prog_11_method_34_code 101 = .ok (.dreturn, 1) := by decide +kernel
theorem d_Model_apart_102 : decode prog_11_method_34_code 102 = .ok (.dconst 0, 1) := by decide +kernel
theorem d_Model_apart_103 : decode prog_11_method_34_code 103 = .ok (.dstore 4, 2) := by decide +kernel
theorem d_Model_apart_105 : decode prog_11_method_34_code 105 = .ok (.iconst 0, 1) := by decide +kernel
theorem d_Model_apart_106 : decode prog_11_method_34_code 106 = .ok (.istore 6, 2) := by decide +kernel
theorem d_Model_apart_108 : decode prog_11_method_34_code 108 = .ok (.iload 6, 2) := by decide +kernel
theorem d_Model_apart_110 : decode prog_11_method_34_code 110 = .ok (.aload_n 0, 1) := by decide +kernel
theorem d_Model_apart_111 : decode prog_11_method_34_code 111 = .ok (.getfield 13, 3) := by decide +kernel
theorem d_Model_apart_114 : decode prog_11_method_34_code 114 = .ok (.iload_n 1, 1) := by decide +kernel
theorem d_Model_apart_115 : decode prog_11_method_34_code 115 = .ok (.iaload, 1) := by decide +kernel
theorem d_Model_apart_116 : decode prog_11_method_34_code 116 = .ok (.if_icmp .ge 69, 3) := by decide +kernel
theorem d_Model_apart_119 : decode prog_11_method_34_code 119 = .ok (.iconst 0, 1) := by decide +kernel
theorem d_Model_apart_120 : decode prog_11_method_34_code 120 = .ok (.istore 7, 2) := by decide +kernel
theorem d_Model_apart_122 : decode prog_11_method_34_code 122 = .ok (.iload 7, 2) := by decide +kernel
theorem d_Model_apart_124 : decode prog_11_method_34_code 124 = .ok (.aload_n 0, 1) := by decide +kernel
theorem d_Model_apart_125 : decode prog_11_method_34_code 125 = .ok (.getfield 7, 3) := by decide +kernel
theorem d_Model_apart_128 : decode prog_11_method_34_code 128 = .ok (.iload_n 1, 1) := by decide +kernel
theorem d_Model_apart_129 : decode prog_11_method_34_code 129 = .ok (.iaload, 1) := by decide +kernel
theorem d_Model_apart_130 : decode prog_11_method_34_code 130 = .ok (.if_icmp .ge 49, 3) := by decide +kernel
theorem d_Model_apart_133 : decode prog_11_method_34_code 133 = .ok (.aload_n 0, 1) := by decide +kernel
theorem d_Model_apart_134 : decode prog_11_method_34_code 134 = .ok (.getfield 16, 3) := by decide +kernel
theorem d_Model_apart_137 : decode prog_11_method_34_code 137 = .ok (.iload_n 1, 1) := by decide +kernel
theorem d_Model_apart_138 : decode prog_11_method_34_code 138 = .ok (.iload 7, 2) := by decide +kernel
theorem d_Model_apart_140 : decode prog_11_method_34_code 140 = .ok (.iload 6, 2) := by decide +kernel
theorem d_Model_apart_142 : decode prog_11_method_34_code 142 = .ok (.invokestatic 71, 3) := by decide +kernel
theorem d_Model_apart_145 : decode prog_11_method_34_code 145 = .ok (.iaload, 1) := by decide +kernel
theorem d_Model_apart_146 : decode prog_11_method_34_code 146 = .ok (.aload_n 0, 1) := by decide +kernel
theorem d_Model_apart_147 : decode prog_11_method_34_code 147 = .ok (.getfield 16, 3) := by decide +kernel
theorem d_Model_apart_150 : decode prog_11_method_34_code 150 = .ok (.iload_n 2, 1) := by decide +kernel
theorem d_Model_apart_151 : decode prog_11_method_34_code 151 = .ok (.iload 7, 2) := by decide +kernel
theorem d_Model_apart_153 : decode prog_11_method_34_code 153 = .ok (.iload 6, 2) := by decide +kernel
theorem d_Model_apart_155 : decode prog_11_method_34_code 155 = .ok (.invokestatic 71, 3) := by decide +kernel
theorem d_Model_apart_158 : decode prog_11_method_34_code 158 = .ok (.iaload, 1) := by decide +kernel
theorem d_Model_apart_159 : decode prog_11_method_34_code 159 = .ok (.isub, 1) := by decide +kernel
theorem d_Model_apart_160 : decode prog_11_method_34_code 160 = .ok (.istore 8, 2) := by decide +kernel
theorem d_Model_apart_162 : decode prog_11_method_34_code 162 = .ok (.dload 4, 2) := by decide +kernel
theorem d_Model_apart_164 : decode prog_11_method_34_code 164 = .ok (.iload 8, 2) := by decide +kernel
theorem d_Model_apart_166 : decode prog_11_method_34_code 166 = .ok (.iload 8, 2) := by decide +kernel
theorem d_Model_apart_168 : decode prog_11_method_34_code 168 = .ok (.imul, 1) := by decide +kernel
theorem d_Model_apart_169 : decode prog_11_method_34_code 169 = .ok (.i2d, 1) := by decide +kernel
theorem d_Model_apart_170 : decode prog_11_method_34_code 170 = .ok (.dadd, 1) := by decide +kernel
theorem d_Model_apart_171 : decode prog_11_method_34_code 171 = .ok (.dstore 4, 2) := by decide +kernel
theorem d_Model_apart_173 : decode prog_11_method_34_code 173 = .ok (.iinc 7 1, 3) := by decide +kernel
theorem d_Model_apart_176 : decode prog_11_method_34_code 176 = .ok (.goto (-54), 3) := by decide +kernel
theorem d_Model_apart_179 : decode prog_11_method_34_code 179 = .ok (.iinc 6 1, 3) := by decide +kernel
theorem d_Model_apart_182 : decode prog_11_method_34_code 182 = .ok (.goto (-74), 3) := by decide +kernel
theorem d_Model_apart_185 : decode prog_11_method_34_code 185 = .ok (.dload 4, 2) := by decide +kernel
theorem d_Model_apart_187 : decode prog_11_method_34_code 187 = .ok (.aload_n 0, 1) := by decide +kernel
theorem d_Model_apart_188 : decode prog_11_method_34_code 188 = .ok (.getfield 7, 3) := by decide +kernel
theorem d_Model_apart_191 : decode prog_11_method_34_code 191 = .ok (.iload_n 1, 1) := by decide +kernel
theorem d_Model_apart_192 : decode prog_11_method_34_code 192 = .ok (.iaload, 1) := by decide +kernel
theorem d_Model_apart_193 : decode prog_11_method_34_code 193 = .ok (.aload_n 0, 1) := by decide +kernel
theorem d_Model_apart_194 : decode prog_11_method_34_code 194 = .ok (.getfield 13, 3) := by decide +kernel
theorem d_Model_apart_197 : decode prog_11_method_34_code 197 = .ok (.iload_n 1, 1) := by decide +kernel
theorem d_Model_apart_198 : decode prog_11_method_34_code 198 = .ok (.iaload, 1) := by decide +kernel
theorem d_Model_apart_199 : decode prog_11_method_34_code 199 = .ok (.imul, 1) := by decide +kernel
theorem d_Model_apart_200 : decode prog_11_method_34_code 200 = .ok (.i2d, 1) := by decide +kernel
theorem d_Model_apart_201 : decode prog_11_method_34_code 201 = .ok (.ddiv, 1) := by decide +kernel
theorem d_Model_apart_202 : decode prog_11_method_34_code 202 = .ok (.dreturn, 1) := by decide +kernel
def q_mo_apart (cI cZ : ClassId) (g0 : Nat) (g1 : Nat) (g2 : Nat) (g3 : Nat) (g4 : Nat) (g5 : Nat) (g6 : Nat) (g7 : Nat) (g8 : Nat) (g9 : Nat) (g10 : Nat) (g11 : Nat) (g12 : Nat) (g13 : Nat) (g14 : Nat) (g15 : Nat) (isz : Int32) (ith : Int32) (ico : Int32) (icl : Int32) (irw : Int32) (ibi : Int32) (ien : Int32) (itr : Int32) (ibl : Int32) (ile : Int32) (igr : Int32) (ibk : Int32) (ist : Int32) (ibr : Int32) (wd : Nat → Int32) (hg : Nat → Int32) (pix : Nat → Int32) (thr : Nat → Int32) (o1 : Nat) (o2 : Nat) (pw : Nat) (ph : Nat) : UInt64 → va_W → Prop := fun rr ww => rr = (FP.ddiv (FP.i2d (apY (oP pix o1) (oP pix o2) pw ph)) (FP.i2d (nI (pw * ph)))) ∧ ww = [(g0, .inr (9, [.ref g1, .ref g2, .ref g3, .ref g4, .ref g5, .ref g6, .ref g7, .ref g8, .ref g9, .ref g10, .ref g11, .ref g12, .ref g13, .ref g14, .ref g15, .int isz, .int 0, .int ico, .int icl, .int irw, .int ibi, .int ien, .int itr, .int ibl, .int ile, .int igr, .int ibk, .int ist, .int ibr])), (g1, .inl (cI, 4, .inl wd)), (g2, .inl (cI, 4, .inl hg)), (g3, .inl (cI, 576, .inl pix)), (g15, .inl (cZ, 4, .inl thr))]
set_option maxHeartbeats 4000000 in
set_option maxRecDepth 100000 in
theorem c_mo_apart (l : Launch) {D : va_G} {tys : List (ClassId × FieldType)} {cI cZ : ClassId} (hcI : tys[0]? = some (cI, .int)) (hcZ : tys[3]? = some (cZ, .boolean)) (g0 : Nat) (g1 : Nat) (g2 : Nat) (g3 : Nat) (g4 : Nat) (g5 : Nat) (g6 : Nat) (g7 : Nat) (g8 : Nat) (g9 : Nat) (g10 : Nat) (g11 : Nat) (g12 : Nat) (g13 : Nat) (g14 : Nat) (g15 : Nat) (isz : Int32) (ith : Int32) (ico : Int32) (icl : Int32) (irw : Int32) (ibi : Int32) (ien : Int32) (itr : Int32) (ibl : Int32) (ile : Int32) (igr : Int32) (ibk : Int32) (ist : Int32) (ibr : Int32) (wd : Nat → Int32) (hg : Nat → Int32) (pix : Nat → Int32) (thr : Nat → Int32) (o1 : Nat) (o2 : Nat) (pw : Nat) (ph : Nat) (ho1 : o1 ≤ 2) (ho2 : o2 ≤ 2) (ht1 : ¬ thr o1 = 0) (ht2 : ¬ thr o2 = 0) (hww : wd o1 = wd o2) (hhh : hg o1 = hg o2) (hwd : wd o1 = nI pw) (hhg : hg o1 = nI ph) (hpw : 0 < pw ∧ pw ≤ 12) (hph : 0 < ph ∧ ph ≤ 12) (hr1 : PR (oP pix o1)) (hr2 : PR (oP pix o2)) : CsD l D vwCl tys y_Model_apart ws_Model_apart ({ frames := 1, cells := 0, slots := 0, locals := 22 } : Room) [.ref g0, .int (nI o1), .int (nI o2)] [(g0, .inr (9, [.ref g1, .ref g2, .ref g3, .ref g4, .ref g5, .ref g6, .ref g7, .ref g8, .ref g9, .ref g10, .ref g11, .ref g12, .ref g13, .ref g14, .ref g15, .int isz, .int ith, .int ico, .int icl, .int irw, .int ibi, .int ien, .int itr, .int ibl, .int ile, .int igr, .int ibk, .int ist, .int ibr])), (g1, .inl (cI, 4, .inl wd)), (g2, .inl (cI, 4, .inl hg)), (g3, .inl (cI, 576, .inl pix)), (g15, .inl (cZ, 4, .inl thr))] (q_mo_apart cI cZ g0 g1 g2 g3 g4 g5 g6 g7 g8 g9 g10 g11 g12 g13 g14 g15 isz ith ico icl irw ibi ien itr ibl ile igr ibk ist ibr wd hg pix thr o1 o2 pw ph) 0 0 := by
  intro sz
  refine Met.ofW (cc := prog_11_method_34_code) (maxL := 9) (ret := (some .double)) (by decide) rfl ?_
  intro p e s m args below meth c s₁ B hml hv
  obtain ⟨rfl, hsz, hP, hK, hD0, hN⟩ := hv
  have hx := B.exec
  have hb := B.bytes
  have hr := B.returns
  have hts := atoms_spec (ws := ws_Model_apart) B.pre
  have hown : s.vm.findClass "TileForgeModel" = some m.cls := findClass_of_methodNamed B.named
  have hlocks := B.notSynchronized
  subst hsz
  have hD := hD0.self (sz := s.heap.size)
  generalize hAe : va_A [(g0, .inr (9, [.ref g1, .ref g2, .ref g3, .ref g4, .ref g5, .ref g6, .ref g7, .ref g8, .ref g9, .ref g10, .ref g11, .ref g12, .ref g13, .ref g14, .ref g15, .int isz, .int ith, .int ico, .int icl, .int irw, .int ibi, .int ien, .int itr, .int ibl, .int ile, .int igr, .int ibk, .int ist, .int ibr])), (g1, .inl (cI, 4, .inl wd)), (g2, .inl (cI, 4, .inl hg)), (g3, .inl (cI, 576, .inl pix)), (g15, .inl (cZ, 4, .inl thr))] s.heap.size = A at hD ⊢
  have hA : ∀ q : Nat, s.heap.size ≤ q → A q := fun q h => by rw [← hAe]; exact Or.inr h
  have hS : va_S A s.heap s.heap [] := va_S.rf
  have hP : va_P D vwCl [(g0, .inr (9, [.ref g1, .ref g2, .ref g3, .ref g4, .ref g5, .ref g6, .ref g7, .ref g8, .ref g9, .ref g10, .ref g11, .ref g12, .ref g13, .ref g14, .ref g15, .int isz, .int ith, .int ico, .int icl, .int irw, .int ibi, .int ien, .int itr, .int ibl, .int ile, .int igr, .int ibk, .int ist, .int ibr])), (g1, .inl (cI, 4, .inl wd)), (g2, .inl (cI, 4, .inl hg)), (g3, .inl (cI, 576, .inl pix)), (g15, .inl (cZ, 4, .inl thr))] s.heap := hP
  have hl := lv_entry ([.ref g0, .int (nI o1), .int (nI o2)]) (n := 9) (Nat.le_of_ble_eq_true rfl)
  rw [lg_entry_eq]
  generalize (lg_sl ([.ref g0, .int (nI o1), .int (nI o2)]) ++ List.replicate (9 - (lg_sl ([.ref g0, .int (nI o1), .int (nI o2)])).length) Slot.unset).toArray = ls at hl ⊢
  have hl : lv_has ls 9 [(0, .ref g0), (1, .int (nI o1)), (2, .int (nI o2))] := hl
  have h9 : pw * ph ≤ 12 * 12 := Nat.mul_le_mul hpw.2 hph.2
  have h8 : 0 < pw * ph := Nat.mul_pos hpw.1 hph.1
  refine lv_iload_n hx hb d_Model_apart_0 rfl (lv_at hl 1 rfl) ?_
  refine lv_iconst (v := 0) hx hb d_Model_apart_1 (by decide) ?_
  refine lv_iconst (v := 2) hx hb d_Model_apart_2 (by decide) ?_
  refine cs_Si (As := [.int (nI o1), .int 0, .int 2]) (rest := []) (wr := [(g0, .inr (9, [.ref g1, .ref g2, .ref g3, .ref g4, .ref g5, .ref g6, .ref g7, .ref g8, .ref g9, .ref g10, .ref g11, .ref g12, .ref g13, .ref g14, .ref g15, .int isz, .int ith, .int ico, .int icl, .int irw, .int ibi, .int ien, .int itr, .int ibl, .int ile, .int igr, .int ibk, .int ist, .int ibr])), (g1, .inl (cI, 4, .inl wd)), (g2, .inl (cI, 4, .inl hg)), (g3, .inl (cI, 576, .inl pix)), (g15, .inl (cZ, 4, .inl thr))]) ⟨hx, hb, hml, hown, hts⟩ (c_mo_in l hcI (nI o1) 0 2) (va_cwS 3 hts (cs_gS mw_350 mw_351 mw_349 mw_341) rfl rfl rfl hd_Model_in ⟨Nat.le_of_ble_eq_true rfl, Nat.le_of_ble_eq_true rfl⟩) hN hK hP hD hS hA [] [0, 1, 2, 3, 4] rfl rfl rfl rfl (by decide) rfl rfl hl.1 (Nat.le_of_ble_eq_true rfl) d_Model_apart_3 ⟨Nat.le_of_ble_eq_true rfl, Nat.le_of_ble_eq_true rfl⟩ (fun r1 w1 H locs hw hP hD hS => ?_)
  obtain ⟨rfl, rfl⟩ := hw
  have hP : va_P D vwCl [(g0, .inr (9, [.ref g1, .ref g2, .ref g3, .ref g4, .ref g5, .ref g6, .ref g7, .ref g8, .ref g9, .ref g10, .ref g11, .ref g12, .ref g13, .ref g14, .ref g15, .int isz, .int ith, .int ico, .int icl, .int irw, .int ibi, .int ien, .int itr, .int ibl, .int ile, .int igr, .int ibk, .int ist, .int ibr])), (g1, .inl (cI, 4, .inl wd)), (g2, .inl (cI, 4, .inl hg)), (g3, .inl (cI, 576, .inl pix)), (g15, .inl (cZ, 4, .inl thr))] H := hP
  have hD : va_D A [(g0, .inr (9, [.ref g1, .ref g2, .ref g3, .ref g4, .ref g5, .ref g6, .ref g7, .ref g8, .ref g9, .ref g10, .ref g11, .ref g12, .ref g13, .ref g14, .ref g15, .int isz, .int ith, .int ico, .int icl, .int irw, .int ibi, .int ien, .int itr, .int ibl, .int ile, .int igr, .int ibk, .int ist, .int ibr])), (g1, .inl (cI, 4, .inl wd)), (g2, .inl (cI, 4, .inl hg)), (g3, .inl (cI, 576, .inl pix)), (g15, .inl (cZ, 4, .inl thr))] := hD
  refine lv_if_eq (tgt := 22) hx hb d_Model_apart_6 (by decide) (fun c_6 => ?_) (fun c_6 => ?_)
  · have c_6 := cs_b0 c_6
    exact absurd (cs_ch ho1) c_6
  · have c_6 := cs_b1 c_6
    refine lv_iload_n hx hb d_Model_apart_9 rfl (lv_at hl 2 rfl) ?_
    refine lv_iconst (v := 0) hx hb d_Model_apart_10 (by decide) ?_
    refine lv_iconst (v := 2) hx hb d_Model_apart_11 (by decide) ?_
    refine cs_Si (As := [.int (nI o2), .int 0, .int 2]) (rest := []) (wr := [(g0, .inr (9, [.ref g1, .ref g2, .ref g3, .ref g4, .ref g5, .ref g6, .ref g7, .ref g8, .ref g9, .ref g10, .ref g11, .ref g12, .ref g13, .ref g14, .ref g15, .int isz, .int ith, .int ico, .int icl, .int irw, .int ibi, .int ien, .int itr, .int ibl, .int ile, .int igr, .int ibk, .int ist, .int ibr])), (g1, .inl (cI, 4, .inl wd)), (g2, .inl (cI, 4, .inl hg)), (g3, .inl (cI, 576, .inl pix)), (g15, .inl (cZ, 4, .inl thr))]) ⟨hx, hb, hml, hown, hts⟩ (c_mo_in l hcI (nI o2) 0 2) (va_cwS 3 hts (cs_gS mw_350 mw_351 mw_349 mw_341) rfl rfl rfl hd_Model_in ⟨Nat.le_of_ble_eq_true rfl, Nat.le_of_ble_eq_true rfl⟩) hN hK hP hD hS hA [] [0, 1, 2, 3, 4] rfl rfl rfl rfl (by decide) rfl rfl hl.1 (Nat.le_of_ble_eq_true rfl) d_Model_apart_12 ⟨Nat.le_of_ble_eq_true rfl, Nat.le_of_ble_eq_true rfl⟩ (fun r2 w1 H locs hw hP hD hS => ?_)
    obtain ⟨rfl, rfl⟩ := hw
    have hP : va_P D vwCl [(g0, .inr (9, [.ref g1, .ref g2, .ref g3, .ref g4, .ref g5, .ref g6, .ref g7, .ref g8, .ref g9, .ref g10, .ref g11, .ref g12, .ref g13, .ref g14, .ref g15, .int isz, .int ith, .int ico, .int icl, .int irw, .int ibi, .int ien, .int itr, .int ibl, .int ile, .int igr, .int ibk, .int ist, .int ibr])), (g1, .inl (cI, 4, .inl wd)), (g2, .inl (cI, 4, .inl hg)), (g3, .inl (cI, 576, .inl pix)), (g15, .inl (cZ, 4, .inl thr))] H := hP
    have hD : va_D A [(g0, .inr (9, [.ref g1, .ref g2, .ref g3, .ref g4, .ref g5, .ref g6, .ref g7, .ref g8, .ref g9, .ref g10, .ref g11, .ref g12, .ref g13, .ref g14, .ref g15, .int isz, .int ith, .int ico, .int icl, .int irw, .int ibi, .int ien, .int itr, .int ibl, .int ile, .int igr, .int ibk, .int ist, .int ibr])), (g1, .inl (cI, 4, .inl wd)), (g2, .inl (cI, 4, .inl hg)), (g3, .inl (cI, 576, .inl pix)), (g15, .inl (cZ, 4, .inl thr))] := hD
    refine lv_if_eq (tgt := 22) hx hb d_Model_apart_15 (by decide) (fun c_15 => ?_) (fun c_15 => ?_)
    · have c_15 := cs_b0 c_15
      exact absurd (cs_ch ho2) c_15
    · have c_15 := cs_b1 c_15
      refine lv_iconst (v := 1) hx hb d_Model_apart_18 (by decide) ?_
      refine lv_goto (tgt := 23) hx hb d_Model_apart_19 (by decide) ?_
      refine lv_istore_n (lv' := [(3, .int 1), (0, .ref g0), (1, .int (nI o1)), (2, .int (nI o2))]) hx hb d_Model_apart_23 rfl hl (by decide) rfl (fun ls hl => ?_)
      refine lv_aload_n hx hb d_Model_apart_24 rfl (lv_at hl 1 rfl) ?_
      refine lv_iload_n hx hb d_Model_apart_25 rfl (lv_at hl 0 rfl) ?_
      refine lv_if_ne (tgt := 33) hx hb d_Model_apart_26 (by decide) (fun c_26 => ?_) (fun c_26 => ?_)
      · refine lv_aload_n hx hb d_Model_apart_33 rfl (lv_at hl 1 rfl) ?_
        refine va_get (D := D) (ci := 9) (v := .ref g15) (C := "TileForgeModel") (T := T_Model) (N := 29) hx hb hts (cs_in in_Model) hown hK hP 0 rfl rfl 14 (by decide) (hts _ (cs_m mw_433)) (fun _ h9 => h9) rfl d_Model_apart_34 ?_
        refine lv_iload_n hx hb d_Model_apart_37 rfl (lv_at hl 2 rfl) ?_
        refine cs_zald (j := o1) hx hb hK hcZ hP 4 rfl (rfl) (by omega) (by decide) d_Model_apart_38 ?_
        refine lv_if_eq (tgt := 51) hx hb d_Model_apart_39 (by decide) (fun c_39 => ?_) (fun c_39 => ?_)
        · exact absurd c_39 ht1
        · refine lv_aload_n hx hb d_Model_apart_42 rfl (lv_at hl 1 rfl) ?_
          refine va_get (D := D) (ci := 9) (v := .ref g15) (C := "TileForgeModel") (T := T_Model) (N := 29) hx hb hts (cs_in in_Model) hown hK hP 0 rfl rfl 14 (by decide) (hts _ (cs_m mw_433)) (fun _ h9 => h9) rfl d_Model_apart_43 ?_
          refine lv_iload_n hx hb d_Model_apart_46 rfl (lv_at hl 3 rfl) ?_
          refine cs_zald (j := o2) hx hb hK hcZ hP 4 rfl (rfl) (by omega) (by decide) d_Model_apart_47 ?_
          refine lv_if_ne (tgt := 55) hx hb d_Model_apart_48 (by decide) (fun c_48 => ?_) (fun c_48 => ?_)
          · refine lv_aload_n hx hb d_Model_apart_55 rfl (lv_at hl 1 rfl) ?_
            refine va_get (D := D) (ci := 9) (v := .ref g1) (C := "TileForgeModel") (T := T_Model) (N := 29) hx hb hts (cs_in in_Model) hown hK hP 0 rfl rfl 0 (by decide) (hts _ (cs_m mw_348)) (fun _ h9 => h9) rfl d_Model_apart_56 ?_
            refine lv_iload_n hx hb d_Model_apart_59 rfl (lv_at hl 2 rfl) ?_
            refine cs_iald (j := o1) hx hb hK hcI hP 1 rfl (rfl) (by omega) (by decide) d_Model_apart_60 ?_
            refine lv_aload_n hx hb d_Model_apart_61 rfl (lv_at hl 1 rfl) ?_
            refine va_get (D := D) (ci := 9) (v := .ref g1) (C := "TileForgeModel") (T := T_Model) (N := 29) hx hb hts (cs_in in_Model) hown hK hP 0 rfl rfl 0 (by decide) (hts _ (cs_m mw_348)) (fun _ h9 => h9) rfl d_Model_apart_62 ?_
            refine lv_iload_n hx hb d_Model_apart_65 rfl (lv_at hl 3 rfl) ?_
            refine cs_iald (j := o2) hx hb hK hcI hP 1 rfl (rfl) (by omega) (by decide) d_Model_apart_66 ?_
            refine lv_icmp_ne (tgt := 85) hx hb d_Model_apart_67 (by decide) (fun c_67 => ?_) (fun c_67 => ?_)
            · exact absurd hww c_67
            · refine lv_aload_n hx hb d_Model_apart_70 rfl (lv_at hl 1 rfl) ?_
              refine va_get (D := D) (ci := 9) (v := .ref g2) (C := "TileForgeModel") (T := T_Model) (N := 29) hx hb hts (cs_in in_Model) hown hK hP 0 rfl rfl 1 (by decide) (hts _ (cs_m mw_352)) (fun _ h9 => h9) rfl d_Model_apart_71 ?_
              refine lv_iload_n hx hb d_Model_apart_74 rfl (lv_at hl 2 rfl) ?_
              refine cs_iald (j := o1) hx hb hK hcI hP 2 rfl (rfl) (by omega) (by decide) d_Model_apart_75 ?_
              refine lv_aload_n hx hb d_Model_apart_76 rfl (lv_at hl 1 rfl) ?_
              refine va_get (D := D) (ci := 9) (v := .ref g2) (C := "TileForgeModel") (T := T_Model) (N := 29) hx hb hts (cs_in in_Model) hown hK hP 0 rfl rfl 1 (by decide) (hts _ (cs_m mw_352)) (fun _ h9 => h9) rfl d_Model_apart_77 ?_
              refine lv_iload_n hx hb d_Model_apart_80 rfl (lv_at hl 3 rfl) ?_
              refine cs_iald (j := o2) hx hb hK hcI hP 2 rfl (rfl) (by omega) (by decide) d_Model_apart_81 ?_
              refine lv_icmp_eq (tgt := 89) hx hb d_Model_apart_82 (by decide) (fun c_82 => ?_) (fun c_82 => ?_)
              · refine lv_iconst (v := 0) hx hb d_Model_apart_89 (by decide) ?_
                refine va_put (D := D) (ci := 9) (v := .int 0) (ty := .int) (C := "TileForgeModel") (T := T_Model) (N := 29) hx hb hts (cs_in in_Model) ty_Model tok_Model nm_Model hown hK hP hD hS 0 rfl rfl 16 (by decide) (hts _ (cs_m mw_343)) (fun _ h9 => h9) rfl (by decide +kernel) rfl rfl (Nat.le_of_ble_eq_true rfl) d_Model_apart_90 (fun H locs hP hD hS => ?_)
                have hP : va_P D vwCl [(g0, .inr (9, [.ref g1, .ref g2, .ref g3, .ref g4, .ref g5, .ref g6, .ref g7, .ref g8, .ref g9, .ref g10, .ref g11, .ref g12, .ref g13, .ref g14, .ref g15, .int isz, .int 0, .int ico, .int icl, .int irw, .int ibi, .int ien, .int itr, .int ibl, .int ile, .int igr, .int ibk, .int ist, .int ibr])), (g1, .inl (cI, 4, .inl wd)), (g2, .inl (cI, 4, .inl hg)), (g3, .inl (cI, 576, .inl pix)), (g15, .inl (cZ, 4, .inl thr))] H := hP
                have hD : va_D A [(g0, .inr (9, [.ref g1, .ref g2, .ref g3, .ref g4, .ref g5, .ref g6, .ref g7, .ref g8, .ref g9, .ref g10, .ref g11, .ref g12, .ref g13, .ref g14, .ref g15, .int isz, .int 0, .int ico, .int icl, .int irw, .int ibi, .int ien, .int itr, .int ibl, .int ile, .int igr, .int ibk, .int ist, .int ibr])), (g1, .inl (cI, 4, .inl wd)), (g2, .inl (cI, 4, .inl hg)), (g3, .inl (cI, 576, .inl pix)), (g15, .inl (cZ, 4, .inl thr))] := hD
                refine lv_aload_n hx hb d_Model_apart_93 rfl (lv_at hl 1 rfl) ?_
                refine va_get (D := D) (ci := 9) (v := .int 0) (C := "TileForgeModel") (T := T_Model) (N := 29) hx hb hts (cs_in in_Model) hown hK hP 0 rfl rfl 16 (by decide) (hts _ (cs_m mw_343)) (fun _ h9 => h9) rfl d_Model_apart_94 ?_
                refine lv_if_le (tgt := 102) hx hb d_Model_apart_97 (by decide) (fun c_97 => ?_) (fun c_97 => ?_)
                · refine lv_dconst0 hx hb d_Model_apart_102 ?_
                  refine lv_dstore (lv' := [(4, .double 0), (3, .int 1), (0, .ref g0), (1, .int (nI o1)), (2, .int (nI o2))]) hx hb d_Model_apart_103 hl (by decide) rfl (fun ls hl => ?_)
                  refine lv_iconst (v := 0) hx hb d_Model_apart_105 (by decide) ?_
                  refine lv_istore (lv' := [(6, .int 0), (4, .double 0), (3, .int 1), (0, .ref g0), (1, .int (nI o1)), (2, .int (nI o2))]) hx hb d_Model_apart_106 hl (by decide) rfl (fun ls hl => ?_)
                  have lp108 : ∀ (n : Nat) (jj : Nat) (z : UInt64), (13 ≤ jj + n) → (jj ≤ ph) → (z = FP.i2d (apY (oP pix o1) (oP pix o2) pw jj)) → ∀ (H : Heap) (locs : List Loc) (ls : Array Slot), va_P D vwCl [(g0, .inr (9, [.ref g1, .ref g2, .ref g3, .ref g4, .ref g5, .ref g6, .ref g7, .ref g8, .ref g9, .ref g10, .ref g11, .ref g12, .ref g13, .ref g14, .ref g15, .int isz, .int 0, .int ico, .int icl, .int irw, .int ibi, .int ien, .int itr, .int ibl, .int ile, .int igr, .int ibk, .int ist, .int ibr])), (g1, .inl (cI, 4, .inl wd)), (g2, .inl (cI, 4, .inl hg)), (g3, .inl (cI, 576, .inl pix)), (g15, .inl (cZ, 4, .inl thr))] H → va_D A [(g0, .inr (9, [.ref g1, .ref g2, .ref g3, .ref g4, .ref g5, .ref g6, .ref g7, .ref g8, .ref g9, .ref g10, .ref g11, .ref g12, .ref g13, .ref g14, .ref g15, .int isz, .int 0, .int ico, .int icl, .int irw, .int ibi, .int ien, .int itr, .int ibl, .int ile, .int igr, .int ibk, .int ist, .int ibr])), (g1, .inl (cI, 4, .inl wd)), (g2, .inl (cI, 4, .inl hg)), (g3, .inl (cI, 576, .inl pix)), (g15, .inl (cZ, 4, .inl thr))] → va_S A s.heap H locs → lv_has ls 9 [(0, .ref g0), (1, .int (nI o1)), (2, .int (nI o2)), (4, .double z), (6, .int (nI jj))] → W p l e ({ frames := 1, cells := 0, slots := 0, locals := 22 } : Room) s m ([.ref g0, .int (nI o1), .int (nI o2)] : List Value).toArray below meth c H locs 0 0 (MQ below (va_Qd (q_mo_apart cI cZ g0 g1 g2 g3 g4 g5 g6 g7 g8 g9 g10 g11 g12 g13 g14 g15 isz ith ico icl irw ibi ien itr ibl ile igr ibk ist ibr wd hg pix thr o1 o2 pw ph) (cs_B D vwCl tys A) A) ([.ref g0, .int (nI o1), .int (nI o2)] : List Value).toArray s 0 0 A) (F0 m 108 ls []) := by
                    intro n
                    induction n with
                    | zero =>
                      intro jj z hf hj hz
                      exact absurd hf (by omega)
                    | succ n ih108 =>
                      intro jj z hf hj hz H locs ls hP hD hS hl
                      refine lv_iload hx hb d_Model_apart_108 (lv_at hl 4 rfl) ?_
                      refine lv_aload_n hx hb d_Model_apart_110 rfl (lv_at hl 0 rfl) ?_
                      refine va_get (D := D) (ci := 9) (v := .ref g2) (C := "TileForgeModel") (T := T_Model) (N := 29) hx hb hts (cs_in in_Model) hown hK hP 0 rfl rfl 1 (by decide) (hts _ (cs_m mw_352)) (fun _ h9 => h9) rfl d_Model_apart_111 ?_
                      refine lv_iload_n hx hb d_Model_apart_114 rfl (lv_at hl 1 rfl) ?_
                      refine cs_iald (j := o1) hx hb hK hcI hP 2 rfl (rfl) (by omega) (by decide) d_Model_apart_115 ?_
                      refine cs_top (y := nI ph) (hhg) ?_
                      refine lv_icmp_ge (tgt := 185) hx hb d_Model_apart_116 (by decide) (fun c_116 => ?_) (fun c_116 => ?_)
                      · have hj2 := (nI_leI (a := ph) (b := jj) (by omega) (by omega)).mp c_116
                        have hj3 : jj = ph := by omega
                        refine lv_dload hx hb d_Model_apart_185 (lv_at hl 3 rfl) ?_
                        refine lv_aload_n hx hb d_Model_apart_187 rfl (lv_at hl 0 rfl) ?_
                        refine va_get (D := D) (ci := 9) (v := .ref g1) (C := "TileForgeModel") (T := T_Model) (N := 29) hx hb hts (cs_in in_Model) hown hK hP 0 rfl rfl 0 (by decide) (hts _ (cs_m mw_348)) (fun _ h9 => h9) rfl d_Model_apart_188 ?_
                        refine lv_iload_n hx hb d_Model_apart_191 rfl (lv_at hl 1 rfl) ?_
                        refine cs_iald (j := o1) hx hb hK hcI hP 1 rfl (rfl) (by omega) (by decide) d_Model_apart_192 ?_
                        refine lv_aload_n hx hb d_Model_apart_193 rfl (lv_at hl 0 rfl) ?_
                        refine va_get (D := D) (ci := 9) (v := .ref g2) (C := "TileForgeModel") (T := T_Model) (N := 29) hx hb hts (cs_in in_Model) hown hK hP 0 rfl rfl 1 (by decide) (hts _ (cs_m mw_352)) (fun _ h9 => h9) rfl d_Model_apart_194 ?_
                        refine lv_iload_n hx hb d_Model_apart_197 rfl (lv_at hl 1 rfl) ?_
                        refine cs_iald (j := o1) hx hb hK hcI hP 2 rfl (rfl) (by omega) (by decide) d_Model_apart_198 ?_
                        refine lv_imul hx hb d_Model_apart_199 ?_
                        refine cs_top (y := nI (pw * ph)) (by rw [hwd, hhg]; exact pk_mul pw ph) ?_
                        refine lv_i2d hx hb d_Model_apart_200 ?_
                        refine lv_ddiv hx hb d_Model_apart_201 (by rw [hz]; exact vf_div _ h8 (by omega)) ?_
                        exact W.dret (v := (FP.ddiv z (FP.i2d (nI (pw * ph))))) hx hb hr (fun t ht hW => ⟨⟨(FP.ddiv z (FP.i2d (nI (pw * ph)))), [(g0, .inr (9, [.ref g1, .ref g2, .ref g3, .ref g4, .ref g5, .ref g6, .ref g7, .ref g8, .ref g9, .ref g10, .ref g11, .ref g12, .ref g13, .ref g14, .ref g15, .int isz, .int 0, .int ico, .int icl, .int irw, .int ibi, .int ien, .int itr, .int ibl, .int ile, .int igr, .int ibk, .int ist, .int ibr])), (g1, .inl (cI, 4, .inl wd)), (g2, .inl (cI, 4, .inl hg)), (g3, .inl (cI, 576, .inl pix)), (g15, .inl (cZ, 4, .inl thr))], rfl, ⟨(by rw [hz, hj3]), (rfl)⟩, by rw [ht]; exact hP, va_K.moved hW.alike hK, hD⟩, hS.F ht⟩) hS.2.2 d_Model_apart_202
                      · have hj2 : jj < ph := Nat.not_le.mp (fun q => c_116 ((nI_leI (a := ph) (b := jj) (by omega) (by omega)).mpr q))
                        refine lv_iconst (v := 0) hx hb d_Model_apart_119 (by decide) ?_
                        refine lv_istore (lv' := [(7, .int 0), (0, .ref g0), (1, .int (nI o1)), (2, .int (nI o2)), (4, .double z), (6, .int (nI jj))]) hx hb d_Model_apart_120 hl (by decide) rfl (fun ls hl => ?_)
                        have lp122 : ∀ (n : Nat) (ii : Nat) (z : UInt64), (13 ≤ ii + n) → (ii ≤ pw) → (z = FP.i2d (apY (oP pix o1) (oP pix o2) pw jj + apX (oP pix o1) (oP pix o2) jj ii)) → ∀ (H : Heap) (locs : List Loc) (ls : Array Slot), va_P D vwCl [(g0, .inr (9, [.ref g1, .ref g2, .ref g3, .ref g4, .ref g5, .ref g6, .ref g7, .ref g8, .ref g9, .ref g10, .ref g11, .ref g12, .ref g13, .ref g14, .ref g15, .int isz, .int 0, .int ico, .int icl, .int irw, .int ibi, .int ien, .int itr, .int ibl, .int ile, .int igr, .int ibk, .int ist, .int ibr])), (g1, .inl (cI, 4, .inl wd)), (g2, .inl (cI, 4, .inl hg)), (g3, .inl (cI, 576, .inl pix)), (g15, .inl (cZ, 4, .inl thr))] H → va_D A [(g0, .inr (9, [.ref g1, .ref g2, .ref g3, .ref g4, .ref g5, .ref g6, .ref g7, .ref g8, .ref g9, .ref g10, .ref g11, .ref g12, .ref g13, .ref g14, .ref g15, .int isz, .int 0, .int ico, .int icl, .int irw, .int ibi, .int ien, .int itr, .int ibl, .int ile, .int igr, .int ibk, .int ist, .int ibr])), (g1, .inl (cI, 4, .inl wd)), (g2, .inl (cI, 4, .inl hg)), (g3, .inl (cI, 576, .inl pix)), (g15, .inl (cZ, 4, .inl thr))] → va_S A s.heap H locs → lv_has ls 9 [(0, .ref g0), (1, .int (nI o1)), (2, .int (nI o2)), (4, .double z), (6, .int (nI jj)), (7, .int (nI ii))] → W p l e ({ frames := 1, cells := 0, slots := 0, locals := 22 } : Room) s m ([.ref g0, .int (nI o1), .int (nI o2)] : List Value).toArray below meth c H locs 0 0 (MQ below (va_Qd (q_mo_apart cI cZ g0 g1 g2 g3 g4 g5 g6 g7 g8 g9 g10 g11 g12 g13 g14 g15 isz ith ico icl irw ibi ien itr ibl ile igr ibk ist ibr wd hg pix thr o1 o2 pw ph) (cs_B D vwCl tys A) A) ([.ref g0, .int (nI o1), .int (nI o2)] : List Value).toArray s 0 0 A) (F0 m 122 ls []) := by
                          intro n
                          induction n with
                          | zero =>
                            intro ii z hf hi hz2
                            exact absurd hf (by omega)
                          | succ n ih122 =>
                            intro ii z hf hi hz2 H locs ls hP hD hS hl
                            refine lv_iload hx hb d_Model_apart_122 (lv_at hl 5 rfl) ?_
                            refine lv_aload_n hx hb d_Model_apart_124 rfl (lv_at hl 0 rfl) ?_
                            refine va_get (D := D) (ci := 9) (v := .ref g1) (C := "TileForgeModel") (T := T_Model) (N := 29) hx hb hts (cs_in in_Model) hown hK hP 0 rfl rfl 0 (by decide) (hts _ (cs_m mw_348)) (fun _ h9 => h9) rfl d_Model_apart_125 ?_
                            refine lv_iload_n hx hb d_Model_apart_128 rfl (lv_at hl 1 rfl) ?_
                            refine cs_iald (j := o1) hx hb hK hcI hP 1 rfl (rfl) (by omega) (by decide) d_Model_apart_129 ?_
                            refine cs_top (y := nI pw) (hwd) ?_
                            refine lv_icmp_ge (tgt := 179) hx hb d_Model_apart_130 (by decide) (fun c_130 => ?_) (fun c_130 => ?_)
                            · have hi2 := (nI_leI (a := pw) (b := ii) (by omega) (by omega)).mp c_130
                              have hi3 : ii = pw := by omega
                              refine lv_iinc (v := nI (jj + 1)) (lv' := [(6, .int (nI (jj + 1))), (0, .ref g0), (1, .int (nI o1)), (2, .int (nI o2)), (4, .double z), (7, .int (nI ii))]) hx hb d_Model_apart_179 hl (k := 4) rfl (nI_1 _) (by decide) rfl (fun ls hl => ?_)
                              refine lv_goto (tgt := 108) hx hb d_Model_apart_182 (by decide) ?_
                              exact ih108 (jj + 1) z (by omega) (by omega) (by rw [hz2, hi3, apY]) _ _ _ (hP.sub (ws' := [(g0, .inr (9, [.ref g1, .ref g2, .ref g3, .ref g4, .ref g5, .ref g6, .ref g7, .ref g8, .ref g9, .ref g10, .ref g11, .ref g12, .ref g13, .ref g14, .ref g15, .int isz, .int 0, .int ico, .int icl, .int irw, .int ibi, .int ien, .int itr, .int ibl, .int ile, .int igr, .int ibk, .int ist, .int ibr])), (g1, .inl (cI, 4, .inl wd)), (g2, .inl (cI, 4, .inl hg)), (g3, .inl (cI, 576, .inl pix)), (g15, .inl (cZ, 4, .inl thr))]) [0, 1, 2, 3, 4] rfl) (hD.sub (ws' := [(g0, .inr (9, [.ref g1, .ref g2, .ref g3, .ref g4, .ref g5, .ref g6, .ref g7, .ref g8, .ref g9, .ref g10, .ref g11, .ref g12, .ref g13, .ref g14, .ref g15, .int isz, .int 0, .int ico, .int icl, .int irw, .int ibi, .int ien, .int itr, .int ibl, .int ile, .int igr, .int ibk, .int ist, .int ibr])), (g1, .inl (cI, 4, .inl wd)), (g2, .inl (cI, 4, .inl hg)), (g3, .inl (cI, 576, .inl pix)), (g15, .inl (cZ, 4, .inl thr))]) [0, 1, 2, 3, 4] (by decide) rfl) hS (lv_sub hl [1, 2, 3, 4, 0] rfl)
                            · have hi2 : ii < pw := Nat.not_le.mp (fun q => c_130 ((nI_leI (a := pw) (b := ii) (by omega) (by omega)).mpr q))
                              refine lv_aload_n hx hb d_Model_apart_133 rfl (lv_at hl 0 rfl) ?_
                              refine va_get (D := D) (ci := 9) (v := .ref g3) (C := "TileForgeModel") (T := T_Model) (N := 29) hx hb hts (cs_in in_Model) hown hK hP 0 rfl rfl 2 (by decide) (hts _ (cs_m mw_354)) (fun _ h9 => h9) rfl d_Model_apart_134 ?_
                              refine lv_iload_n hx hb d_Model_apart_137 rfl (lv_at hl 1 rfl) ?_
                              refine lv_iload hx hb d_Model_apart_138 (lv_at hl 5 rfl) ?_
                              refine lv_iload hx hb d_Model_apart_140 (lv_at hl 4 rfl) ?_
                              refine cs_Si (As := [.int (nI o1), .int (nI ii), .int (nI jj)]) (rest := [.ref g3]) (wr := [(g0, .inr (9, [.ref g1, .ref g2, .ref g3, .ref g4, .ref g5, .ref g6, .ref g7, .ref g8, .ref g9, .ref g10, .ref g11, .ref g12, .ref g13, .ref g14, .ref g15, .int isz, .int 0, .int ico, .int icl, .int irw, .int ibi, .int ien, .int itr, .int ibl, .int ile, .int igr, .int ibk, .int ist, .int ibr])), (g1, .inl (cI, 4, .inl wd)), (g2, .inl (cI, 4, .inl hg)), (g3, .inl (cI, 576, .inl pix)), (g15, .inl (cZ, 4, .inl thr))]) ⟨hx, hb, hml, hown, hts⟩ (c_mo_at l hcI o1 ii jj) (va_cwS 3 hts (cs_gS mw_355 mw_356 mw_349 mw_346) rfl rfl rfl hd_Model_at ⟨Nat.le_of_ble_eq_true rfl, Nat.le_of_ble_eq_true rfl⟩) hN hK hP hD hS hA [] [0, 1, 2, 3, 4] rfl rfl rfl rfl (by decide) rfl rfl hl.1 (Nat.le_of_ble_eq_true rfl) d_Model_apart_142 ⟨Nat.le_of_ble_eq_true rfl, Nat.le_of_ble_eq_true rfl⟩ (fun r3 w1 H locs hw hP hD hS => ?_)
                              obtain ⟨rfl, rfl⟩ := hw
                              have hP : va_P D vwCl [(g0, .inr (9, [.ref g1, .ref g2, .ref g3, .ref g4, .ref g5, .ref g6, .ref g7, .ref g8, .ref g9, .ref g10, .ref g11, .ref g12, .ref g13, .ref g14, .ref g15, .int isz, .int 0, .int ico, .int icl, .int irw, .int ibi, .int ien, .int itr, .int ibl, .int ile, .int igr, .int ibk, .int ist, .int ibr])), (g1, .inl (cI, 4, .inl wd)), (g2, .inl (cI, 4, .inl hg)), (g3, .inl (cI, 576, .inl pix)), (g15, .inl (cZ, 4, .inl thr))] H := hP
                              have hD : va_D A [(g0, .inr (9, [.ref g1, .ref g2, .ref g3, .ref g4, .ref g5, .ref g6, .ref g7, .ref g8, .ref g9, .ref g10, .ref g11, .ref g12, .ref g13, .ref g14, .ref g15, .int isz, .int 0, .int ico, .int icl, .int irw, .int ibi, .int ien, .int itr, .int ibl, .int ile, .int igr, .int ibk, .int ist, .int ibr])), (g1, .inl (cI, 4, .inl wd)), (g2, .inl (cI, 4, .inl hg)), (g3, .inl (cI, 576, .inl pix)), (g15, .inl (cZ, 4, .inl thr))] := hD
                              refine cs_iald (j := 144 * o1 + (jj * 12 + ii)) hx hb hK hcI hP 3 rfl (congrArg nI (by omega)) (by omega) (by decide) d_Model_apart_145 ?_
                              refine lv_aload_n hx hb d_Model_apart_146 rfl (lv_at hl 0 rfl) ?_
                              refine va_get (D := D) (ci := 9) (v := .ref g3) (C := "TileForgeModel") (T := T_Model) (N := 29) hx hb hts (cs_in in_Model) hown hK hP 0 rfl rfl 2 (by decide) (hts _ (cs_m mw_354)) (fun _ h9 => h9) rfl d_Model_apart_147 ?_
                              refine lv_iload_n hx hb d_Model_apart_150 rfl (lv_at hl 2 rfl) ?_
                              refine lv_iload hx hb d_Model_apart_151 (lv_at hl 5 rfl) ?_
                              refine lv_iload hx hb d_Model_apart_153 (lv_at hl 4 rfl) ?_
                              refine cs_Si (As := [.int (nI o2), .int (nI ii), .int (nI jj)]) (rest := [.ref g3, .int (pix (144 * o1 + (jj * 12 + ii)))]) (wr := [(g0, .inr (9, [.ref g1, .ref g2, .ref g3, .ref g4, .ref g5, .ref g6, .ref g7, .ref g8, .ref g9, .ref g10, .ref g11, .ref g12, .ref g13, .ref g14, .ref g15, .int isz, .int 0, .int ico, .int icl, .int irw, .int ibi, .int ien, .int itr, .int ibl, .int ile, .int igr, .int ibk, .int ist, .int ibr])), (g1, .inl (cI, 4, .inl wd)), (g2, .inl (cI, 4, .inl hg)), (g3, .inl (cI, 576, .inl pix)), (g15, .inl (cZ, 4, .inl thr))]) ⟨hx, hb, hml, hown, hts⟩ (c_mo_at l hcI o2 ii jj) (va_cwS 3 hts (cs_gS mw_355 mw_356 mw_349 mw_346) rfl rfl rfl hd_Model_at ⟨Nat.le_of_ble_eq_true rfl, Nat.le_of_ble_eq_true rfl⟩) hN hK hP hD hS hA [] [0, 1, 2, 3, 4] rfl rfl rfl rfl (by decide) rfl rfl hl.1 (Nat.le_of_ble_eq_true rfl) d_Model_apart_155 ⟨Nat.le_of_ble_eq_true rfl, Nat.le_of_ble_eq_true rfl⟩ (fun r4 w1 H locs hw hP hD hS => ?_)
                              obtain ⟨rfl, rfl⟩ := hw
                              have hP : va_P D vwCl [(g0, .inr (9, [.ref g1, .ref g2, .ref g3, .ref g4, .ref g5, .ref g6, .ref g7, .ref g8, .ref g9, .ref g10, .ref g11, .ref g12, .ref g13, .ref g14, .ref g15, .int isz, .int 0, .int ico, .int icl, .int irw, .int ibi, .int ien, .int itr, .int ibl, .int ile, .int igr, .int ibk, .int ist, .int ibr])), (g1, .inl (cI, 4, .inl wd)), (g2, .inl (cI, 4, .inl hg)), (g3, .inl (cI, 576, .inl pix)), (g15, .inl (cZ, 4, .inl thr))] H := hP
                              have hD : va_D A [(g0, .inr (9, [.ref g1, .ref g2, .ref g3, .ref g4, .ref g5, .ref g6, .ref g7, .ref g8, .ref g9, .ref g10, .ref g11, .ref g12, .ref g13, .ref g14, .ref g15, .int isz, .int 0, .int ico, .int icl, .int irw, .int ibi, .int ien, .int itr, .int ibl, .int ile, .int igr, .int ibk, .int ist, .int ibr])), (g1, .inl (cI, 4, .inl wd)), (g2, .inl (cI, 4, .inl hg)), (g3, .inl (cI, 576, .inl pix)), (g15, .inl (cZ, 4, .inl thr))] := hD
                              refine cs_iald (j := 144 * o2 + (jj * 12 + ii)) hx hb hK hcI hP 3 rfl (congrArg nI (by omega)) (by omega) (by decide) d_Model_apart_158 ?_
                              refine lv_isub hx hb d_Model_apart_159 ?_
                              refine lv_istore (lv' := [(8, .int ((pix (144 * o1 + (jj * 12 + ii))) - (pix (144 * o2 + (jj * 12 + ii))))), (0, .ref g0), (1, .int (nI o1)), (2, .int (nI o2)), (4, .double z), (6, .int (nI jj)), (7, .int (nI ii))]) hx hb d_Model_apart_160 hl (by decide) rfl (fun ls hl => ?_)
                              refine lv_dload hx hb d_Model_apart_162 (lv_at hl 4 rfl) ?_
                              refine lv_iload hx hb d_Model_apart_164 (lv_at hl 0 rfl) ?_
                              refine lv_iload hx hb d_Model_apart_166 (lv_at hl 0 rfl) ?_
                              refine lv_imul hx hb d_Model_apart_168 ?_
                              refine lv_i2d hx hb d_Model_apart_169 ?_
                              refine lv_dadd hx hb d_Model_apart_170 (by rw [hz2]; exact vf_add _ _) ?_
                              refine lv_dstore (lv' := [(4, .double (FP.dadd z (FP.i2d (((pix (144 * o1 + (jj * 12 + ii))) - (pix (144 * o2 + (jj * 12 + ii)))) * ((pix (144 * o1 + (jj * 12 + ii))) - (pix (144 * o2 + (jj * 12 + ii)))))))), (8, .int ((pix (144 * o1 + (jj * 12 + ii))) - (pix (144 * o2 + (jj * 12 + ii))))), (0, .ref g0), (1, .int (nI o1)), (2, .int (nI o2)), (6, .int (nI jj)), (7, .int (nI ii))]) hx hb d_Model_apart_171 hl (by decide) rfl (fun ls hl => ?_)
                              refine lv_iinc (v := nI (ii + 1)) (lv' := [(7, .int (nI (ii + 1))), (4, .double (FP.dadd z (FP.i2d (((pix (144 * o1 + (jj * 12 + ii))) - (pix (144 * o2 + (jj * 12 + ii)))) * ((pix (144 * o1 + (jj * 12 + ii))) - (pix (144 * o2 + (jj * 12 + ii)))))))), (8, .int ((pix (144 * o1 + (jj * 12 + ii))) - (pix (144 * o2 + (jj * 12 + ii))))), (0, .ref g0), (1, .int (nI o1)), (2, .int (nI o2)), (6, .int (nI jj))]) hx hb d_Model_apart_173 hl (k := 6) rfl (nI_1 _) (by decide) rfl (fun ls hl => ?_)
                              refine lv_goto (tgt := 122) hx hb d_Model_apart_176 (by decide) ?_
                              exact ih122 (ii + 1) (FP.dadd z (FP.i2d (((pix (144 * o1 + (jj * 12 + ii))) - (pix (144 * o2 + (jj * 12 + ii)))) * ((pix (144 * o1 + (jj * 12 + ii))) - (pix (144 * o2 + (jj * 12 + ii))))))) (by omega) (by omega) (by rw [hz2]; exact ap_step hr1 hr2 hpw.2 (by omega) hi2) _ _ _ (hP.sub (ws' := [(g0, .inr (9, [.ref g1, .ref g2, .ref g3, .ref g4, .ref g5, .ref g6, .ref g7, .ref g8, .ref g9, .ref g10, .ref g11, .ref g12, .ref g13, .ref g14, .ref g15, .int isz, .int 0, .int ico, .int icl, .int irw, .int ibi, .int ien, .int itr, .int ibl, .int ile, .int igr, .int ibk, .int ist, .int ibr])), (g1, .inl (cI, 4, .inl wd)), (g2, .inl (cI, 4, .inl hg)), (g3, .inl (cI, 576, .inl pix)), (g15, .inl (cZ, 4, .inl thr))]) [0, 1, 2, 3, 4] rfl) (hD.sub (ws' := [(g0, .inr (9, [.ref g1, .ref g2, .ref g3, .ref g4, .ref g5, .ref g6, .ref g7, .ref g8, .ref g9, .ref g10, .ref g11, .ref g12, .ref g13, .ref g14, .ref g15, .int isz, .int 0, .int ico, .int icl, .int irw, .int ibi, .int ien, .int itr, .int ibl, .int ile, .int igr, .int ibk, .int ist, .int ibr])), (g1, .inl (cI, 4, .inl wd)), (g2, .inl (cI, 4, .inl hg)), (g3, .inl (cI, 576, .inl pix)), (g15, .inl (cZ, 4, .inl thr))]) [0, 1, 2, 3, 4] (by decide) rfl) hS (lv_sub hl [3, 4, 5, 1, 6, 0] rfl)
                        exact lp122 (13) 0 z (by omega) (by omega) (by rw [hz, apX, Int32.add_zero]) _ _ _ (hP.sub (ws' := [(g0, .inr (9, [.ref g1, .ref g2, .ref g3, .ref g4, .ref g5, .ref g6, .ref g7, .ref g8, .ref g9, .ref g10, .ref g11, .ref g12, .ref g13, .ref g14, .ref g15, .int isz, .int 0, .int ico, .int icl, .int irw, .int ibi, .int ien, .int itr, .int ibl, .int ile, .int igr, .int ibk, .int ist, .int ibr])), (g1, .inl (cI, 4, .inl wd)), (g2, .inl (cI, 4, .inl hg)), (g3, .inl (cI, 576, .inl pix)), (g15, .inl (cZ, 4, .inl thr))]) [0, 1, 2, 3, 4] rfl) (hD.sub (ws' := [(g0, .inr (9, [.ref g1, .ref g2, .ref g3, .ref g4, .ref g5, .ref g6, .ref g7, .ref g8, .ref g9, .ref g10, .ref g11, .ref g12, .ref g13, .ref g14, .ref g15, .int isz, .int 0, .int ico, .int icl, .int irw, .int ibi, .int ien, .int itr, .int ibl, .int ile, .int igr, .int ibk, .int ist, .int ibr])), (g1, .inl (cI, 4, .inl wd)), (g2, .inl (cI, 4, .inl hg)), (g3, .inl (cI, 576, .inl pix)), (g15, .inl (cZ, 4, .inl thr))]) [0, 1, 2, 3, 4] (by decide) rfl) hS (lv_sub hl [1, 2, 3, 4, 5, 0] rfl)
                  exact lp108 (13) 0 0 (by omega) (by omega) (by rw [apY]; exact i2d_0) _ _ _ (hP.sub (ws' := [(g0, .inr (9, [.ref g1, .ref g2, .ref g3, .ref g4, .ref g5, .ref g6, .ref g7, .ref g8, .ref g9, .ref g10, .ref g11, .ref g12, .ref g13, .ref g14, .ref g15, .int isz, .int 0, .int ico, .int icl, .int irw, .int ibi, .int ien, .int itr, .int ibl, .int ile, .int igr, .int ibk, .int ist, .int ibr])), (g1, .inl (cI, 4, .inl wd)), (g2, .inl (cI, 4, .inl hg)), (g3, .inl (cI, 576, .inl pix)), (g15, .inl (cZ, 4, .inl thr))]) [0, 1, 2, 3, 4] rfl) (hD.sub (ws' := [(g0, .inr (9, [.ref g1, .ref g2, .ref g3, .ref g4, .ref g5, .ref g6, .ref g7, .ref g8, .ref g9, .ref g10, .ref g11, .ref g12, .ref g13, .ref g14, .ref g15, .int isz, .int 0, .int ico, .int icl, .int irw, .int ibi, .int ien, .int itr, .int ibl, .int ile, .int igr, .int ibk, .int ist, .int ibr])), (g1, .inl (cI, 4, .inl wd)), (g2, .inl (cI, 4, .inl hg)), (g3, .inl (cI, 576, .inl pix)), (g15, .inl (cZ, 4, .inl thr))]) [0, 1, 2, 3, 4] (by decide) rfl) hS (lv_sub hl [3, 4, 5, 1, 0] rfl)
                · exact absurd c_97 (by decide)
              · exact absurd hhh c_82
          · exact absurd c_48 ht2
      · exact absurd c_26 (by decide)
def q_mo_apartB (cI : ClassId) (g0 : Nat) (g1 : Nat) (g2 : Nat) (g3 : Nat) (g4 : Nat) (g5 : Nat) (g6 : Nat) (g7 : Nat) (g8 : Nat) (g9 : Nat) (g10 : Nat) (g11 : Nat) (g12 : Nat) (g13 : Nat) (g14 : Nat) (g15 : Nat) (isz : Int32) (ith : Int32) (ico : Int32) (icl : Int32) (irw : Int32) (ibi : Int32) (ien : Int32) (itr : Int32) (ibl : Int32) (ile : Int32) (igr : Int32) (ibk : Int32) (ist : Int32) (ibr : Int32) (o1 : Int32) (o2 : Int32) : UInt64 → va_W → Prop := fun rr ww => rr = (0) ∧ ww = [(g0, .inr (9, [.ref g1, .ref g2, .ref g3, .ref g4, .ref g5, .ref g6, .ref g7, .ref g8, .ref g9, .ref g10, .ref g11, .ref g12, .ref g13, .ref g14, .ref g15, .int isz, .int 1, .int ico, .int icl, .int irw, .int ibi, .int ien, .int itr, .int ibl, .int ile, .int igr, .int ibk, .int ist, .int ibr]))]
set_option maxHeartbeats 4000000 in
set_option maxRecDepth 100000 in
theorem c_mo_apartB (l : Launch) {D : va_G} {tys : List (ClassId × FieldType)} {cI : ClassId} (hcI : tys[0]? = some (cI, .int)) (g0 : Nat) (g1 : Nat) (g2 : Nat) (g3 : Nat) (g4 : Nat) (g5 : Nat) (g6 : Nat) (g7 : Nat) (g8 : Nat) (g9 : Nat) (g10 : Nat) (g11 : Nat) (g12 : Nat) (g13 : Nat) (g14 : Nat) (g15 : Nat) (isz : Int32) (ith : Int32) (ico : Int32) (icl : Int32) (irw : Int32) (ibi : Int32) (ien : Int32) (itr : Int32) (ibl : Int32) (ile : Int32) (igr : Int32) (ibk : Int32) (ist : Int32) (ibr : Int32) (o1 : Int32) (o2 : Int32) (hbad : ¬ ((¬ o1 < 0 ∧ ¬ 2 < o1) ∧ (¬ o2 < 0 ∧ ¬ 2 < o2))) : CsD l D vwCl tys y_Model_apart ws_Model_apart ({ frames := 1, cells := 0, slots := 0, locals := 22 } : Room) [.ref g0, .int o1, .int o2] [(g0, .inr (9, [.ref g1, .ref g2, .ref g3, .ref g4, .ref g5, .ref g6, .ref g7, .ref g8, .ref g9, .ref g10, .ref g11, .ref g12, .ref g13, .ref g14, .ref g15, .int isz, .int ith, .int ico, .int icl, .int irw, .int ibi, .int ien, .int itr, .int ibl, .int ile, .int igr, .int ibk, .int ist, .int ibr]))] (q_mo_apartB cI g0 g1 g2 g3 g4 g5 g6 g7 g8 g9 g10 g11 g12 g13 g14 g15 isz ith ico icl irw ibi ien itr ibl ile igr ibk ist ibr o1 o2) 0 0 := by
  intro sz
  refine Met.ofW (cc := prog_11_method_34_code) (maxL := 9) (ret := (some .double)) (by decide) rfl ?_
  intro p e s m args below meth c s₁ B hml hv
  obtain ⟨rfl, hsz, hP, hK, hD0, hN⟩ := hv
  have hx := B.exec
  have hb := B.bytes
  have hr := B.returns
  have hts := atoms_spec (ws := ws_Model_apart) B.pre
  have hown : s.vm.findClass "TileForgeModel" = some m.cls := findClass_of_methodNamed B.named
  have hlocks := B.notSynchronized
  subst hsz
  have hD := hD0.self (sz := s.heap.size)
  generalize hAe : va_A [(g0, .inr (9, [.ref g1, .ref g2, .ref g3, .ref g4, .ref g5, .ref g6, .ref g7, .ref g8, .ref g9, .ref g10, .ref g11, .ref g12, .ref g13, .ref g14, .ref g15, .int isz, .int ith, .int ico, .int icl, .int irw, .int ibi, .int ien, .int itr, .int ibl, .int ile, .int igr, .int ibk, .int ist, .int ibr]))] s.heap.size = A at hD ⊢
  have hA : ∀ q : Nat, s.heap.size ≤ q → A q := fun q h => by rw [← hAe]; exact Or.inr h
  have hS : va_S A s.heap s.heap [] := va_S.rf
  have hP : va_P D vwCl [(g0, .inr (9, [.ref g1, .ref g2, .ref g3, .ref g4, .ref g5, .ref g6, .ref g7, .ref g8, .ref g9, .ref g10, .ref g11, .ref g12, .ref g13, .ref g14, .ref g15, .int isz, .int ith, .int ico, .int icl, .int irw, .int ibi, .int ien, .int itr, .int ibl, .int ile, .int igr, .int ibk, .int ist, .int ibr]))] s.heap := hP
  have hl := lv_entry ([.ref g0, .int o1, .int o2]) (n := 9) (Nat.le_of_ble_eq_true rfl)
  rw [lg_entry_eq]
  generalize (lg_sl ([.ref g0, .int o1, .int o2]) ++ List.replicate (9 - (lg_sl ([.ref g0, .int o1, .int o2])).length) Slot.unset).toArray = ls at hl ⊢
  have hl : lv_has ls 9 [(0, .ref g0), (1, .int o1), (2, .int o2)] := hl
  refine lv_iload_n hx hb d_Model_apart_0 rfl (lv_at hl 1 rfl) ?_
  refine lv_iconst (v := 0) hx hb d_Model_apart_1 (by decide) ?_
  refine lv_iconst (v := 2) hx hb d_Model_apart_2 (by decide) ?_
  refine cs_Si (As := [.int o1, .int 0, .int 2]) (rest := []) (wr := [(g0, .inr (9, [.ref g1, .ref g2, .ref g3, .ref g4, .ref g5, .ref g6, .ref g7, .ref g8, .ref g9, .ref g10, .ref g11, .ref g12, .ref g13, .ref g14, .ref g15, .int isz, .int ith, .int ico, .int icl, .int irw, .int ibi, .int ien, .int itr, .int ibl, .int ile, .int igr, .int ibk, .int ist, .int ibr]))]) ⟨hx, hb, hml, hown, hts⟩ (c_mo_in l hcI o1 0 2) (va_cwS 3 hts (cs_gS mw_350 mw_351 mw_349 mw_341) rfl rfl rfl hd_Model_in ⟨Nat.le_of_ble_eq_true rfl, Nat.le_of_ble_eq_true rfl⟩) hN hK hP hD hS hA [] [0] rfl rfl rfl rfl (by decide) rfl rfl hl.1 (Nat.le_of_ble_eq_true rfl) d_Model_apart_3 ⟨Nat.le_of_ble_eq_true rfl, Nat.le_of_ble_eq_true rfl⟩ (fun r1 w1 H locs hw hP hD hS => ?_)
  obtain ⟨rfl, rfl⟩ := hw
  have hP : va_P D vwCl [(g0, .inr (9, [.ref g1, .ref g2, .ref g3, .ref g4, .ref g5, .ref g6, .ref g7, .ref g8, .ref g9, .ref g10, .ref g11, .ref g12, .ref g13, .ref g14, .ref g15, .int isz, .int ith, .int ico, .int icl, .int irw, .int ibi, .int ien, .int itr, .int ibl, .int ile, .int igr, .int ibk, .int ist, .int ibr]))] H := hP
  have hD : va_D A [(g0, .inr (9, [.ref g1, .ref g2, .ref g3, .ref g4, .ref g5, .ref g6, .ref g7, .ref g8, .ref g9, .ref g10, .ref g11, .ref g12, .ref g13, .ref g14, .ref g15, .int isz, .int ith, .int ico, .int icl, .int irw, .int ibi, .int ien, .int itr, .int ibl, .int ile, .int igr, .int ibk, .int ist, .int ibr]))] := hD
  refine lv_if_eq (tgt := 22) hx hb d_Model_apart_6 (by decide) (fun c_6 => ?_) (fun c_6 => ?_)
  · have c_6 := cs_b0 c_6
    refine lv_iconst (v := 0) hx hb d_Model_apart_22 (by decide) ?_
    refine lv_istore_n (lv' := [(3, .int 0), (0, .ref g0), (1, .int o1), (2, .int o2)]) hx hb d_Model_apart_23 rfl hl (by decide) rfl (fun ls hl => ?_)
    refine lv_aload_n hx hb d_Model_apart_24 rfl (lv_at hl 1 rfl) ?_
    refine lv_iload_n hx hb d_Model_apart_25 rfl (lv_at hl 0 rfl) ?_
    refine lv_if_ne (tgt := 33) hx hb d_Model_apart_26 (by decide) (fun c_26 => ?_) (fun c_26 => ?_)
    · exact absurd c_26 (by decide)
    · refine lv_iconst (v := 1) hx hb d_Model_apart_29 (by decide) ?_
      refine lv_goto (tgt := 90) hx hb d_Model_apart_30 (by decide) ?_
      refine va_put (D := D) (ci := 9) (v := .int 1) (ty := .int) (C := "TileForgeModel") (T := T_Model) (N := 29) hx hb hts (cs_in in_Model) ty_Model tok_Model nm_Model hown hK hP hD hS 0 rfl rfl 16 (by decide) (hts _ (cs_m mw_343)) (fun _ h9 => h9) rfl (by decide +kernel) rfl rfl (Nat.le_of_ble_eq_true rfl) d_Model_apart_90 (fun H locs hP hD hS => ?_)
      have hP : va_P D vwCl [(g0, .inr (9, [.ref g1, .ref g2, .ref g3, .ref g4, .ref g5, .ref g6, .ref g7, .ref g8, .ref g9, .ref g10, .ref g11, .ref g12, .ref g13, .ref g14, .ref g15, .int isz, .int 1, .int ico, .int icl, .int irw, .int ibi, .int ien, .int itr, .int ibl, .int ile, .int igr, .int ibk, .int ist, .int ibr]))] H := hP
      have hD : va_D A [(g0, .inr (9, [.ref g1, .ref g2, .ref g3, .ref g4, .ref g5, .ref g6, .ref g7, .ref g8, .ref g9, .ref g10, .ref g11, .ref g12, .ref g13, .ref g14, .ref g15, .int isz, .int 1, .int ico, .int icl, .int irw, .int ibi, .int ien, .int itr, .int ibl, .int ile, .int igr, .int ibk, .int ist, .int ibr]))] := hD
      refine lv_aload_n hx hb d_Model_apart_93 rfl (lv_at hl 1 rfl) ?_
      refine va_get (D := D) (ci := 9) (v := .int 1) (C := "TileForgeModel") (T := T_Model) (N := 29) hx hb hts (cs_in in_Model) hown hK hP 0 rfl rfl 16 (by decide) (hts _ (cs_m mw_343)) (fun _ h9 => h9) rfl d_Model_apart_94 ?_
      refine lv_if_le (tgt := 102) hx hb d_Model_apart_97 (by decide) (fun c_97 => ?_) (fun c_97 => ?_)
      · exact absurd c_97 (by decide)
      · refine lv_dconst0 hx hb d_Model_apart_100 ?_
        exact W.dret (v := 0) hx hb hr (fun t ht hW => ⟨⟨0, [(g0, .inr (9, [.ref g1, .ref g2, .ref g3, .ref g4, .ref g5, .ref g6, .ref g7, .ref g8, .ref g9, .ref g10, .ref g11, .ref g12, .ref g13, .ref g14, .ref g15, .int isz, .int 1, .int ico, .int icl, .int irw, .int ibi, .int ien, .int itr, .int ibl, .int ile, .int igr, .int ibk, .int ist, .int ibr]))], rfl, ⟨(rfl), (rfl)⟩, by rw [ht]; exact hP, va_K.moved hW.alike hK, hD⟩, hS.F ht⟩) hS.2.2 d_Model_apart_101
  · have c_6 := cs_b1 c_6
    refine lv_iload_n hx hb d_Model_apart_9 rfl (lv_at hl 2 rfl) ?_
    refine lv_iconst (v := 0) hx hb d_Model_apart_10 (by decide) ?_
    refine lv_iconst (v := 2) hx hb d_Model_apart_11 (by decide) ?_
    refine cs_Si (As := [.int o2, .int 0, .int 2]) (rest := []) (wr := [(g0, .inr (9, [.ref g1, .ref g2, .ref g3, .ref g4, .ref g5, .ref g6, .ref g7, .ref g8, .ref g9, .ref g10, .ref g11, .ref g12, .ref g13, .ref g14, .ref g15, .int isz, .int ith, .int ico, .int icl, .int irw, .int ibi, .int ien, .int itr, .int ibl, .int ile, .int igr, .int ibk, .int ist, .int ibr]))]) ⟨hx, hb, hml, hown, hts⟩ (c_mo_in l hcI o2 0 2) (va_cwS 3 hts (cs_gS mw_350 mw_351 mw_349 mw_341) rfl rfl rfl hd_Model_in ⟨Nat.le_of_ble_eq_true rfl, Nat.le_of_ble_eq_true rfl⟩) hN hK hP hD hS hA [] [0] rfl rfl rfl rfl (by decide) rfl rfl hl.1 (Nat.le_of_ble_eq_true rfl) d_Model_apart_12 ⟨Nat.le_of_ble_eq_true rfl, Nat.le_of_ble_eq_true rfl⟩ (fun r2 w1 H locs hw hP hD hS => ?_)
    obtain ⟨rfl, rfl⟩ := hw
    have hP : va_P D vwCl [(g0, .inr (9, [.ref g1, .ref g2, .ref g3, .ref g4, .ref g5, .ref g6, .ref g7, .ref g8, .ref g9, .ref g10, .ref g11, .ref g12, .ref g13, .ref g14, .ref g15, .int isz, .int ith, .int ico, .int icl, .int irw, .int ibi, .int ien, .int itr, .int ibl, .int ile, .int igr, .int ibk, .int ist, .int ibr]))] H := hP
    have hD : va_D A [(g0, .inr (9, [.ref g1, .ref g2, .ref g3, .ref g4, .ref g5, .ref g6, .ref g7, .ref g8, .ref g9, .ref g10, .ref g11, .ref g12, .ref g13, .ref g14, .ref g15, .int isz, .int ith, .int ico, .int icl, .int irw, .int ibi, .int ien, .int itr, .int ibl, .int ile, .int igr, .int ibk, .int ist, .int ibr]))] := hD
    refine lv_if_eq (tgt := 22) hx hb d_Model_apart_15 (by decide) (fun c_15 => ?_) (fun c_15 => ?_)
    · have c_15 := cs_b0 c_15
      refine lv_iconst (v := 0) hx hb d_Model_apart_22 (by decide) ?_
      refine lv_istore_n (lv' := [(3, .int 0), (0, .ref g0), (1, .int o1), (2, .int o2)]) hx hb d_Model_apart_23 rfl hl (by decide) rfl (fun ls hl => ?_)
      refine lv_aload_n hx hb d_Model_apart_24 rfl (lv_at hl 1 rfl) ?_
      refine lv_iload_n hx hb d_Model_apart_25 rfl (lv_at hl 0 rfl) ?_
      refine lv_if_ne (tgt := 33) hx hb d_Model_apart_26 (by decide) (fun c_26 => ?_) (fun c_26 => ?_)
      · exact absurd c_26 (by decide)
      · refine lv_iconst (v := 1) hx hb d_Model_apart_29 (by decide) ?_
        refine lv_goto (tgt := 90) hx hb d_Model_apart_30 (by decide) ?_
        refine va_put (D := D) (ci := 9) (v := .int 1) (ty := .int) (C := "TileForgeModel") (T := T_Model) (N := 29) hx hb hts (cs_in in_Model) ty_Model tok_Model nm_Model hown hK hP hD hS 0 rfl rfl 16 (by decide) (hts _ (cs_m mw_343)) (fun _ h9 => h9) rfl (by decide +kernel) rfl rfl (Nat.le_of_ble_eq_true rfl) d_Model_apart_90 (fun H locs hP hD hS => ?_)
        have hP : va_P D vwCl [(g0, .inr (9, [.ref g1, .ref g2, .ref g3, .ref g4, .ref g5, .ref g6, .ref g7, .ref g8, .ref g9, .ref g10, .ref g11, .ref g12, .ref g13, .ref g14, .ref g15, .int isz, .int 1, .int ico, .int icl, .int irw, .int ibi, .int ien, .int itr, .int ibl, .int ile, .int igr, .int ibk, .int ist, .int ibr]))] H := hP
        have hD : va_D A [(g0, .inr (9, [.ref g1, .ref g2, .ref g3, .ref g4, .ref g5, .ref g6, .ref g7, .ref g8, .ref g9, .ref g10, .ref g11, .ref g12, .ref g13, .ref g14, .ref g15, .int isz, .int 1, .int ico, .int icl, .int irw, .int ibi, .int ien, .int itr, .int ibl, .int ile, .int igr, .int ibk, .int ist, .int ibr]))] := hD
        refine lv_aload_n hx hb d_Model_apart_93 rfl (lv_at hl 1 rfl) ?_
        refine va_get (D := D) (ci := 9) (v := .int 1) (C := "TileForgeModel") (T := T_Model) (N := 29) hx hb hts (cs_in in_Model) hown hK hP 0 rfl rfl 16 (by decide) (hts _ (cs_m mw_343)) (fun _ h9 => h9) rfl d_Model_apart_94 ?_
        refine lv_if_le (tgt := 102) hx hb d_Model_apart_97 (by decide) (fun c_97 => ?_) (fun c_97 => ?_)
        · exact absurd c_97 (by decide)
        · refine lv_dconst0 hx hb d_Model_apart_100 ?_
          exact W.dret (v := 0) hx hb hr (fun t ht hW => ⟨⟨0, [(g0, .inr (9, [.ref g1, .ref g2, .ref g3, .ref g4, .ref g5, .ref g6, .ref g7, .ref g8, .ref g9, .ref g10, .ref g11, .ref g12, .ref g13, .ref g14, .ref g15, .int isz, .int 1, .int ico, .int icl, .int irw, .int ibi, .int ien, .int itr, .int ibl, .int ile, .int igr, .int ibk, .int ist, .int ibr]))], rfl, ⟨(rfl), (rfl)⟩, by rw [ht]; exact hP, va_K.moved hW.alike hK, hD⟩, hS.F ht⟩) hS.2.2 d_Model_apart_101
    · have c_15 := cs_b1 c_15
      exact absurd ⟨c_6, c_15⟩ hbad
def q_mo_apartC (cI cZ : ClassId) (g0 : Nat) (g1 : Nat) (g2 : Nat) (g3 : Nat) (g4 : Nat) (g5 : Nat) (g6 : Nat) (g7 : Nat) (g8 : Nat) (g9 : Nat) (g10 : Nat) (g11 : Nat) (g12 : Nat) (g13 : Nat) (g14 : Nat) (g15 : Nat) (isz : Int32) (ith : Int32) (ico : Int32) (icl : Int32) (irw : Int32) (ibi : Int32) (ien : Int32) (itr : Int32) (ibl : Int32) (ile : Int32) (igr : Int32) (ibk : Int32) (ist : Int32) (ibr : Int32) (thr : Nat → Int32) (o1 : Nat) (o2 : Nat) : UInt64 → va_W → Prop := fun rr ww => rr = (0) ∧ ww = [(g0, .inr (9, [.ref g1, .ref g2, .ref g3, .ref g4, .ref g5, .ref g6, .ref g7, .ref g8, .ref g9, .ref g10, .ref g11, .ref g12, .ref g13, .ref g14, .ref g15, .int isz, .int 2, .int ico, .int icl, .int irw, .int ibi, .int ien, .int itr, .int ibl, .int ile, .int igr, .int ibk, .int ist, .int ibr])), (g15, .inl (cZ, 4, .inl thr))]
set_option maxHeartbeats 4000000 in
set_option maxRecDepth 100000 in
theorem c_mo_apartC (l : Launch) {D : va_G} {tys : List (ClassId × FieldType)} {cI cZ : ClassId} (hcI : tys[0]? = some (cI, .int)) (hcZ : tys[3]? = some (cZ, .boolean)) (g0 : Nat) (g1 : Nat) (g2 : Nat) (g3 : Nat) (g4 : Nat) (g5 : Nat) (g6 : Nat) (g7 : Nat) (g8 : Nat) (g9 : Nat) (g10 : Nat) (g11 : Nat) (g12 : Nat) (g13 : Nat) (g14 : Nat) (g15 : Nat) (isz : Int32) (ith : Int32) (ico : Int32) (icl : Int32) (irw : Int32) (ibi : Int32) (ien : Int32) (itr : Int32) (ibl : Int32) (ile : Int32) (igr : Int32) (ibk : Int32) (ist : Int32) (ibr : Int32) (thr : Nat → Int32) (o1 : Nat) (o2 : Nat) (ho1 : o1 ≤ 2) (ho2 : o2 ≤ 2) (hbad : thr o1 = 0 ∨ thr o2 = 0) : CsD l D vwCl tys y_Model_apart ws_Model_apart ({ frames := 1, cells := 0, slots := 0, locals := 22 } : Room) [.ref g0, .int (nI o1), .int (nI o2)] [(g0, .inr (9, [.ref g1, .ref g2, .ref g3, .ref g4, .ref g5, .ref g6, .ref g7, .ref g8, .ref g9, .ref g10, .ref g11, .ref g12, .ref g13, .ref g14, .ref g15, .int isz, .int ith, .int ico, .int icl, .int irw, .int ibi, .int ien, .int itr, .int ibl, .int ile, .int igr, .int ibk, .int ist, .int ibr])), (g15, .inl (cZ, 4, .inl thr))] (q_mo_apartC cI cZ g0 g1 g2 g3 g4 g5 g6 g7 g8 g9 g10 g11 g12 g13 g14 g15 isz ith ico icl irw ibi ien itr ibl ile igr ibk ist ibr thr o1 o2) 0 0 := by
  intro sz
  refine Met.ofW (cc := prog_11_method_34_code) (maxL := 9) (ret := (some .double)) (by decide) rfl ?_
  intro p e s m args below meth c s₁ B hml hv
  obtain ⟨rfl, hsz, hP, hK, hD0, hN⟩ := hv
  have hx := B.exec
  have hb := B.bytes
  have hr := B.returns
  have hts := atoms_spec (ws := ws_Model_apart) B.pre
  have hown : s.vm.findClass "TileForgeModel" = some m.cls := findClass_of_methodNamed B.named
  have hlocks := B.notSynchronized
  subst hsz
  have hD := hD0.self (sz := s.heap.size)
  generalize hAe : va_A [(g0, .inr (9, [.ref g1, .ref g2, .ref g3, .ref g4, .ref g5, .ref g6, .ref g7, .ref g8, .ref g9, .ref g10, .ref g11, .ref g12, .ref g13, .ref g14, .ref g15, .int isz, .int ith, .int ico, .int icl, .int irw, .int ibi, .int ien, .int itr, .int ibl, .int ile, .int igr, .int ibk, .int ist, .int ibr])), (g15, .inl (cZ, 4, .inl thr))] s.heap.size = A at hD ⊢
  have hA : ∀ q : Nat, s.heap.size ≤ q → A q := fun q h => by rw [← hAe]; exact Or.inr h
  have hS : va_S A s.heap s.heap [] := va_S.rf
  have hP : va_P D vwCl [(g0, .inr (9, [.ref g1, .ref g2, .ref g3, .ref g4, .ref g5, .ref g6, .ref g7, .ref g8, .ref g9, .ref g10, .ref g11, .ref g12, .ref g13, .ref g14, .ref g15, .int isz, .int ith, .int ico, .int icl, .int irw, .int ibi, .int ien, .int itr, .int ibl, .int ile, .int igr, .int ibk, .int ist, .int ibr])), (g15, .inl (cZ, 4, .inl thr))] s.heap := hP
  have hl := lv_entry ([.ref g0, .int (nI o1), .int (nI o2)]) (n := 9) (Nat.le_of_ble_eq_true rfl)
  rw [lg_entry_eq]
  generalize (lg_sl ([.ref g0, .int (nI o1), .int (nI o2)]) ++ List.replicate (9 - (lg_sl ([.ref g0, .int (nI o1), .int (nI o2)])).length) Slot.unset).toArray = ls at hl ⊢
  have hl : lv_has ls 9 [(0, .ref g0), (1, .int (nI o1)), (2, .int (nI o2))] := hl
  refine lv_iload_n hx hb d_Model_apart_0 rfl (lv_at hl 1 rfl) ?_
  refine lv_iconst (v := 0) hx hb d_Model_apart_1 (by decide) ?_
  refine lv_iconst (v := 2) hx hb d_Model_apart_2 (by decide) ?_
  refine cs_Si (As := [.int (nI o1), .int 0, .int 2]) (rest := []) (wr := [(g0, .inr (9, [.ref g1, .ref g2, .ref g3, .ref g4, .ref g5, .ref g6, .ref g7, .ref g8, .ref g9, .ref g10, .ref g11, .ref g12, .ref g13, .ref g14, .ref g15, .int isz, .int ith, .int ico, .int icl, .int irw, .int ibi, .int ien, .int itr, .int ibl, .int ile, .int igr, .int ibk, .int ist, .int ibr])), (g15, .inl (cZ, 4, .inl thr))]) ⟨hx, hb, hml, hown, hts⟩ (c_mo_in l hcI (nI o1) 0 2) (va_cwS 3 hts (cs_gS mw_350 mw_351 mw_349 mw_341) rfl rfl rfl hd_Model_in ⟨Nat.le_of_ble_eq_true rfl, Nat.le_of_ble_eq_true rfl⟩) hN hK hP hD hS hA [] [0, 1] rfl rfl rfl rfl (by decide) rfl rfl hl.1 (Nat.le_of_ble_eq_true rfl) d_Model_apart_3 ⟨Nat.le_of_ble_eq_true rfl, Nat.le_of_ble_eq_true rfl⟩ (fun r1 w1 H locs hw hP hD hS => ?_)
  obtain ⟨rfl, rfl⟩ := hw
  have hP : va_P D vwCl [(g0, .inr (9, [.ref g1, .ref g2, .ref g3, .ref g4, .ref g5, .ref g6, .ref g7, .ref g8, .ref g9, .ref g10, .ref g11, .ref g12, .ref g13, .ref g14, .ref g15, .int isz, .int ith, .int ico, .int icl, .int irw, .int ibi, .int ien, .int itr, .int ibl, .int ile, .int igr, .int ibk, .int ist, .int ibr])), (g15, .inl (cZ, 4, .inl thr))] H := hP
  have hD : va_D A [(g0, .inr (9, [.ref g1, .ref g2, .ref g3, .ref g4, .ref g5, .ref g6, .ref g7, .ref g8, .ref g9, .ref g10, .ref g11, .ref g12, .ref g13, .ref g14, .ref g15, .int isz, .int ith, .int ico, .int icl, .int irw, .int ibi, .int ien, .int itr, .int ibl, .int ile, .int igr, .int ibk, .int ist, .int ibr])), (g15, .inl (cZ, 4, .inl thr))] := hD
  refine lv_if_eq (tgt := 22) hx hb d_Model_apart_6 (by decide) (fun c_6 => ?_) (fun c_6 => ?_)
  · have c_6 := cs_b0 c_6
    exact absurd (cs_ch ho1) c_6
  · have c_6 := cs_b1 c_6
    refine lv_iload_n hx hb d_Model_apart_9 rfl (lv_at hl 2 rfl) ?_
    refine lv_iconst (v := 0) hx hb d_Model_apart_10 (by decide) ?_
    refine lv_iconst (v := 2) hx hb d_Model_apart_11 (by decide) ?_
    refine cs_Si (As := [.int (nI o2), .int 0, .int 2]) (rest := []) (wr := [(g0, .inr (9, [.ref g1, .ref g2, .ref g3, .ref g4, .ref g5, .ref g6, .ref g7, .ref g8, .ref g9, .ref g10, .ref g11, .ref g12, .ref g13, .ref g14, .ref g15, .int isz, .int ith, .int ico, .int icl, .int irw, .int ibi, .int ien, .int itr, .int ibl, .int ile, .int igr, .int ibk, .int ist, .int ibr])), (g15, .inl (cZ, 4, .inl thr))]) ⟨hx, hb, hml, hown, hts⟩ (c_mo_in l hcI (nI o2) 0 2) (va_cwS 3 hts (cs_gS mw_350 mw_351 mw_349 mw_341) rfl rfl rfl hd_Model_in ⟨Nat.le_of_ble_eq_true rfl, Nat.le_of_ble_eq_true rfl⟩) hN hK hP hD hS hA [] [0, 1] rfl rfl rfl rfl (by decide) rfl rfl hl.1 (Nat.le_of_ble_eq_true rfl) d_Model_apart_12 ⟨Nat.le_of_ble_eq_true rfl, Nat.le_of_ble_eq_true rfl⟩ (fun r2 w1 H locs hw hP hD hS => ?_)
    obtain ⟨rfl, rfl⟩ := hw
    have hP : va_P D vwCl [(g0, .inr (9, [.ref g1, .ref g2, .ref g3, .ref g4, .ref g5, .ref g6, .ref g7, .ref g8, .ref g9, .ref g10, .ref g11, .ref g12, .ref g13, .ref g14, .ref g15, .int isz, .int ith, .int ico, .int icl, .int irw, .int ibi, .int ien, .int itr, .int ibl, .int ile, .int igr, .int ibk, .int ist, .int ibr])), (g15, .inl (cZ, 4, .inl thr))] H := hP
    have hD : va_D A [(g0, .inr (9, [.ref g1, .ref g2, .ref g3, .ref g4, .ref g5, .ref g6, .ref g7, .ref g8, .ref g9, .ref g10, .ref g11, .ref g12, .ref g13, .ref g14, .ref g15, .int isz, .int ith, .int ico, .int icl, .int irw, .int ibi, .int ien, .int itr, .int ibl, .int ile, .int igr, .int ibk, .int ist, .int ibr])), (g15, .inl (cZ, 4, .inl thr))] := hD
    refine lv_if_eq (tgt := 22) hx hb d_Model_apart_15 (by decide) (fun c_15 => ?_) (fun c_15 => ?_)
    · have c_15 := cs_b0 c_15
      exact absurd (cs_ch ho2) c_15
    · have c_15 := cs_b1 c_15
      refine lv_iconst (v := 1) hx hb d_Model_apart_18 (by decide) ?_
      refine lv_goto (tgt := 23) hx hb d_Model_apart_19 (by decide) ?_
      refine lv_istore_n (lv' := [(3, .int 1), (0, .ref g0), (1, .int (nI o1)), (2, .int (nI o2))]) hx hb d_Model_apart_23 rfl hl (by decide) rfl (fun ls hl => ?_)
      refine lv_aload_n hx hb d_Model_apart_24 rfl (lv_at hl 1 rfl) ?_
      refine lv_iload_n hx hb d_Model_apart_25 rfl (lv_at hl 0 rfl) ?_
      refine lv_if_ne (tgt := 33) hx hb d_Model_apart_26 (by decide) (fun c_26 => ?_) (fun c_26 => ?_)
      · refine lv_aload_n hx hb d_Model_apart_33 rfl (lv_at hl 1 rfl) ?_
        refine va_get (D := D) (ci := 9) (v := .ref g15) (C := "TileForgeModel") (T := T_Model) (N := 29) hx hb hts (cs_in in_Model) hown hK hP 0 rfl rfl 14 (by decide) (hts _ (cs_m mw_433)) (fun _ h9 => h9) rfl d_Model_apart_34 ?_
        refine lv_iload_n hx hb d_Model_apart_37 rfl (lv_at hl 2 rfl) ?_
        refine cs_zald (j := o1) hx hb hK hcZ hP 1 rfl (rfl) (by omega) (by decide) d_Model_apart_38 ?_
        refine lv_if_eq (tgt := 51) hx hb d_Model_apart_39 (by decide) (fun c_39 => ?_) (fun c_39 => ?_)
        · refine lv_iconst (v := 2) hx hb d_Model_apart_51 (by decide) ?_
          refine lv_goto (tgt := 90) hx hb d_Model_apart_52 (by decide) ?_
          refine va_put (D := D) (ci := 9) (v := .int 2) (ty := .int) (C := "TileForgeModel") (T := T_Model) (N := 29) hx hb hts (cs_in in_Model) ty_Model tok_Model nm_Model hown hK hP hD hS 0 rfl rfl 16 (by decide) (hts _ (cs_m mw_343)) (fun _ h9 => h9) rfl (by decide +kernel) rfl rfl (Nat.le_of_ble_eq_true rfl) d_Model_apart_90 (fun H locs hP hD hS => ?_)
          have hP : va_P D vwCl [(g0, .inr (9, [.ref g1, .ref g2, .ref g3, .ref g4, .ref g5, .ref g6, .ref g7, .ref g8, .ref g9, .ref g10, .ref g11, .ref g12, .ref g13, .ref g14, .ref g15, .int isz, .int 2, .int ico, .int icl, .int irw, .int ibi, .int ien, .int itr, .int ibl, .int ile, .int igr, .int ibk, .int ist, .int ibr])), (g15, .inl (cZ, 4, .inl thr))] H := hP
          have hD : va_D A [(g0, .inr (9, [.ref g1, .ref g2, .ref g3, .ref g4, .ref g5, .ref g6, .ref g7, .ref g8, .ref g9, .ref g10, .ref g11, .ref g12, .ref g13, .ref g14, .ref g15, .int isz, .int 2, .int ico, .int icl, .int irw, .int ibi, .int ien, .int itr, .int ibl, .int ile, .int igr, .int ibk, .int ist, .int ibr])), (g15, .inl (cZ, 4, .inl thr))] := hD
          refine lv_aload_n hx hb d_Model_apart_93 rfl (lv_at hl 1 rfl) ?_
          refine va_get (D := D) (ci := 9) (v := .int 2) (C := "TileForgeModel") (T := T_Model) (N := 29) hx hb hts (cs_in in_Model) hown hK hP 0 rfl rfl 16 (by decide) (hts _ (cs_m mw_343)) (fun _ h9 => h9) rfl d_Model_apart_94 ?_
          refine lv_if_le (tgt := 102) hx hb d_Model_apart_97 (by decide) (fun c_97 => ?_) (fun c_97 => ?_)
          · exact absurd c_97 (by decide)
          · refine lv_dconst0 hx hb d_Model_apart_100 ?_
            exact W.dret (v := 0) hx hb hr (fun t ht hW => ⟨⟨0, [(g0, .inr (9, [.ref g1, .ref g2, .ref g3, .ref g4, .ref g5, .ref g6, .ref g7, .ref g8, .ref g9, .ref g10, .ref g11, .ref g12, .ref g13, .ref g14, .ref g15, .int isz, .int 2, .int ico, .int icl, .int irw, .int ibi, .int ien, .int itr, .int ibl, .int ile, .int igr, .int ibk, .int ist, .int ibr])), (g15, .inl (cZ, 4, .inl thr))], rfl, ⟨(rfl), (rfl)⟩, by rw [ht]; exact hP, va_K.moved hW.alike hK, hD⟩, hS.F ht⟩) hS.2.2 d_Model_apart_101
        · refine lv_aload_n hx hb d_Model_apart_42 rfl (lv_at hl 1 rfl) ?_
          refine va_get (D := D) (ci := 9) (v := .ref g15) (C := "TileForgeModel") (T := T_Model) (N := 29) hx hb hts (cs_in in_Model) hown hK hP 0 rfl rfl 14 (by decide) (hts _ (cs_m mw_433)) (fun _ h9 => h9) rfl d_Model_apart_43 ?_
          refine lv_iload_n hx hb d_Model_apart_46 rfl (lv_at hl 3 rfl) ?_
          refine cs_zald (j := o2) hx hb hK hcZ hP 1 rfl (rfl) (by omega) (by decide) d_Model_apart_47 ?_
          refine lv_if_ne (tgt := 55) hx hb d_Model_apart_48 (by decide) (fun c_48 => ?_) (fun c_48 => ?_)
          · exact absurd hbad (fun h => h.elim c_39 c_48)
          · refine lv_iconst (v := 2) hx hb d_Model_apart_51 (by decide) ?_
            refine lv_goto (tgt := 90) hx hb d_Model_apart_52 (by decide) ?_
            refine va_put (D := D) (ci := 9) (v := .int 2) (ty := .int) (C := "TileForgeModel") (T := T_Model) (N := 29) hx hb hts (cs_in in_Model) ty_Model tok_Model nm_Model hown hK hP hD hS 0 rfl rfl 16 (by decide) (hts _ (cs_m mw_343)) (fun _ h9 => h9) rfl (by decide +kernel) rfl rfl (Nat.le_of_ble_eq_true rfl) d_Model_apart_90 (fun H locs hP hD hS => ?_)
            have hP : va_P D vwCl [(g0, .inr (9, [.ref g1, .ref g2, .ref g3, .ref g4, .ref g5, .ref g6, .ref g7, .ref g8, .ref g9, .ref g10, .ref g11, .ref g12, .ref g13, .ref g14, .ref g15, .int isz, .int 2, .int ico, .int icl, .int irw, .int ibi, .int ien, .int itr, .int ibl, .int ile, .int igr, .int ibk, .int ist, .int ibr])), (g15, .inl (cZ, 4, .inl thr))] H := hP
            have hD : va_D A [(g0, .inr (9, [.ref g1, .ref g2, .ref g3, .ref g4, .ref g5, .ref g6, .ref g7, .ref g8, .ref g9, .ref g10, .ref g11, .ref g12, .ref g13, .ref g14, .ref g15, .int isz, .int 2, .int ico, .int icl, .int irw, .int ibi, .int ien, .int itr, .int ibl, .int ile, .int igr, .int ibk, .int ist, .int ibr])), (g15, .inl (cZ, 4, .inl thr))] := hD
            refine lv_aload_n hx hb d_Model_apart_93 rfl (lv_at hl 1 rfl) ?_
            refine va_get (D := D) (ci := 9) (v := .int 2) (C := "TileForgeModel") (T := T_Model) (N := 29) hx hb hts (cs_in in_Model) hown hK hP 0 rfl rfl 16 (by decide) (hts _ (cs_m mw_343)) (fun _ h9 => h9) rfl d_Model_apart_94 ?_
            refine lv_if_le (tgt := 102) hx hb d_Model_apart_97 (by decide) (fun c_97 => ?_) (fun c_97 => ?_)
            · exact absurd c_97 (by decide)
            · refine lv_dconst0 hx hb d_Model_apart_100 ?_
              exact W.dret (v := 0) hx hb hr (fun t ht hW => ⟨⟨0, [(g0, .inr (9, [.ref g1, .ref g2, .ref g3, .ref g4, .ref g5, .ref g6, .ref g7, .ref g8, .ref g9, .ref g10, .ref g11, .ref g12, .ref g13, .ref g14, .ref g15, .int isz, .int 2, .int ico, .int icl, .int irw, .int ibi, .int ien, .int itr, .int ibl, .int ile, .int igr, .int ibk, .int ist, .int ibr])), (g15, .inl (cZ, 4, .inl thr))], rfl, ⟨(rfl), (rfl)⟩, by rw [ht]; exact hP, va_K.moved hW.alike hK, hD⟩, hS.F ht⟩) hS.2.2 d_Model_apart_101
      · exact absurd c_26 (by decide)
def q_mo_apartD (cI cZ : ClassId) (g0 : Nat) (g1 : Nat) (g2 : Nat) (g3 : Nat) (g4 : Nat) (g5 : Nat) (g6 : Nat) (g7 : Nat) (g8 : Nat) (g9 : Nat) (g10 : Nat) (g11 : Nat) (g12 : Nat) (g13 : Nat) (g14 : Nat) (g15 : Nat) (isz : Int32) (ith : Int32) (ico : Int32) (icl : Int32) (irw : Int32) (ibi : Int32) (ien : Int32) (itr : Int32) (ibl : Int32) (ile : Int32) (igr : Int32) (ibk : Int32) (ist : Int32) (ibr : Int32) (wd : Nat → Int32) (hg : Nat → Int32) (thr : Nat → Int32) (o1 : Nat) (o2 : Nat) : UInt64 → va_W → Prop := fun rr ww => rr = (0) ∧ ww = [(g0, .inr (9, [.ref g1, .ref g2, .ref g3, .ref g4, .ref g5, .ref g6, .ref g7, .ref g8, .ref g9, .ref g10, .ref g11, .ref g12, .ref g13, .ref g14, .ref g15, .int isz, .int 3, .int ico, .int icl, .int irw, .int ibi, .int ien, .int itr, .int ibl, .int ile, .int igr, .int ibk, .int ist, .int ibr])), (g1, .inl (cI, 4, .inl wd)), (g2, .inl (cI, 4, .inl hg)), (g15, .inl (cZ, 4, .inl thr))]
set_option maxHeartbeats 4000000 in
set_option maxRecDepth 100000 in
theorem c_mo_apartD (l : Launch) {D : va_G} {tys : List (ClassId × FieldType)} {cI cZ : ClassId} (hcI : tys[0]? = some (cI, .int)) (hcZ : tys[3]? = some (cZ, .boolean)) (g0 : Nat) (g1 : Nat) (g2 : Nat) (g3 : Nat) (g4 : Nat) (g5 : Nat) (g6 : Nat) (g7 : Nat) (g8 : Nat) (g9 : Nat) (g10 : Nat) (g11 : Nat) (g12 : Nat) (g13 : Nat) (g14 : Nat) (g15 : Nat) (isz : Int32) (ith : Int32) (ico : Int32) (icl : Int32) (irw : Int32) (ibi : Int32) (ien : Int32) (itr : Int32) (ibl : Int32) (ile : Int32) (igr : Int32) (ibk : Int32) (ist : Int32) (ibr : Int32) (wd : Nat → Int32) (hg : Nat → Int32) (thr : Nat → Int32) (o1 : Nat) (o2 : Nat) (ho1 : o1 ≤ 2) (ho2 : o2 ≤ 2) (ht1 : ¬ thr o1 = 0) (ht2 : ¬ thr o2 = 0) (hbad : ¬ (wd o1 = wd o2 ∧ hg o1 = hg o2)) : CsD l D vwCl tys y_Model_apart ws_Model_apart ({ frames := 1, cells := 0, slots := 0, locals := 22 } : Room) [.ref g0, .int (nI o1), .int (nI o2)] [(g0, .inr (9, [.ref g1, .ref g2, .ref g3, .ref g4, .ref g5, .ref g6, .ref g7, .ref g8, .ref g9, .ref g10, .ref g11, .ref g12, .ref g13, .ref g14, .ref g15, .int isz, .int ith, .int ico, .int icl, .int irw, .int ibi, .int ien, .int itr, .int ibl, .int ile, .int igr, .int ibk, .int ist, .int ibr])), (g1, .inl (cI, 4, .inl wd)), (g2, .inl (cI, 4, .inl hg)), (g15, .inl (cZ, 4, .inl thr))] (q_mo_apartD cI cZ g0 g1 g2 g3 g4 g5 g6 g7 g8 g9 g10 g11 g12 g13 g14 g15 isz ith ico icl irw ibi ien itr ibl ile igr ibk ist ibr wd hg thr o1 o2) 0 0 := by
  intro sz
  refine Met.ofW (cc := prog_11_method_34_code) (maxL := 9) (ret := (some .double)) (by decide) rfl ?_
  intro p e s m args below meth c s₁ B hml hv
  obtain ⟨rfl, hsz, hP, hK, hD0, hN⟩ := hv
  have hx := B.exec
  have hb := B.bytes
  have hr := B.returns
  have hts := atoms_spec (ws := ws_Model_apart) B.pre
  have hown : s.vm.findClass "TileForgeModel" = some m.cls := findClass_of_methodNamed B.named
  have hlocks := B.notSynchronized
  subst hsz
  have hD := hD0.self (sz := s.heap.size)
  generalize hAe : va_A [(g0, .inr (9, [.ref g1, .ref g2, .ref g3, .ref g4, .ref g5, .ref g6, .ref g7, .ref g8, .ref g9, .ref g10, .ref g11, .ref g12, .ref g13, .ref g14, .ref g15, .int isz, .int ith, .int ico, .int icl, .int irw, .int ibi, .int ien, .int itr, .int ibl, .int ile, .int igr, .int ibk, .int ist, .int ibr])), (g1, .inl (cI, 4, .inl wd)), (g2, .inl (cI, 4, .inl hg)), (g15, .inl (cZ, 4, .inl thr))] s.heap.size = A at hD ⊢
  have hA : ∀ q : Nat, s.heap.size ≤ q → A q := fun q h => by rw [← hAe]; exact Or.inr h
  have hS : va_S A s.heap s.heap [] := va_S.rf
  have hP : va_P D vwCl [(g0, .inr (9, [.ref g1, .ref g2, .ref g3, .ref g4, .ref g5, .ref g6, .ref g7, .ref g8, .ref g9, .ref g10, .ref g11, .ref g12, .ref g13, .ref g14, .ref g15, .int isz, .int ith, .int ico, .int icl, .int irw, .int ibi, .int ien, .int itr, .int ibl, .int ile, .int igr, .int ibk, .int ist, .int ibr])), (g1, .inl (cI, 4, .inl wd)), (g2, .inl (cI, 4, .inl hg)), (g15, .inl (cZ, 4, .inl thr))] s.heap := hP
  have hl := lv_entry ([.ref g0, .int (nI o1), .int (nI o2)]) (n := 9) (Nat.le_of_ble_eq_true rfl)
  rw [lg_entry_eq]
  generalize (lg_sl ([.ref g0, .int (nI o1), .int (nI o2)]) ++ List.replicate (9 - (lg_sl ([.ref g0, .int (nI o1), .int (nI o2)])).length) Slot.unset).toArray = ls at hl ⊢
  have hl : lv_has ls 9 [(0, .ref g0), (1, .int (nI o1)), (2, .int (nI o2))] := hl
  refine lv_iload_n hx hb d_Model_apart_0 rfl (lv_at hl 1 rfl) ?_
  refine lv_iconst (v := 0) hx hb d_Model_apart_1 (by decide) ?_
  refine lv_iconst (v := 2) hx hb d_Model_apart_2 (by decide) ?_
  refine cs_Si (As := [.int (nI o1), .int 0, .int 2]) (rest := []) (wr := [(g0, .inr (9, [.ref g1, .ref g2, .ref g3, .ref g4, .ref g5, .ref g6, .ref g7, .ref g8, .ref g9, .ref g10, .ref g11, .ref g12, .ref g13, .ref g14, .ref g15, .int isz, .int ith, .int ico, .int icl, .int irw, .int ibi, .int ien, .int itr, .int ibl, .int ile, .int igr, .int ibk, .int ist, .int ibr])), (g1, .inl (cI, 4, .inl wd)), (g2, .inl (cI, 4, .inl hg)), (g15, .inl (cZ, 4, .inl thr))]) ⟨hx, hb, hml, hown, hts⟩ (c_mo_in l hcI (nI o1) 0 2) (va_cwS 3 hts (cs_gS mw_350 mw_351 mw_349 mw_341) rfl rfl rfl hd_Model_in ⟨Nat.le_of_ble_eq_true rfl, Nat.le_of_ble_eq_true rfl⟩) hN hK hP hD hS hA [] [0, 1, 2, 3] rfl rfl rfl rfl (by decide) rfl rfl hl.1 (Nat.le_of_ble_eq_true rfl) d_Model_apart_3 ⟨Nat.le_of_ble_eq_true rfl, Nat.le_of_ble_eq_true rfl⟩ (fun r1 w1 H locs hw hP hD hS => ?_)
  obtain ⟨rfl, rfl⟩ := hw
  have hP : va_P D vwCl [(g0, .inr (9, [.ref g1, .ref g2, .ref g3, .ref g4, .ref g5, .ref g6, .ref g7, .ref g8, .ref g9, .ref g10, .ref g11, .ref g12, .ref g13, .ref g14, .ref g15, .int isz, .int ith, .int ico, .int icl, .int irw, .int ibi, .int ien, .int itr, .int ibl, .int ile, .int igr, .int ibk, .int ist, .int ibr])), (g1, .inl (cI, 4, .inl wd)), (g2, .inl (cI, 4, .inl hg)), (g15, .inl (cZ, 4, .inl thr))] H := hP
  have hD : va_D A [(g0, .inr (9, [.ref g1, .ref g2, .ref g3, .ref g4, .ref g5, .ref g6, .ref g7, .ref g8, .ref g9, .ref g10, .ref g11, .ref g12, .ref g13, .ref g14, .ref g15, .int isz, .int ith, .int ico, .int icl, .int irw, .int ibi, .int ien, .int itr, .int ibl, .int ile, .int igr, .int ibk, .int ist, .int ibr])), (g1, .inl (cI, 4, .inl wd)), (g2, .inl (cI, 4, .inl hg)), (g15, .inl (cZ, 4, .inl thr))] := hD
  refine lv_if_eq (tgt := 22) hx hb d_Model_apart_6 (by decide) (fun c_6 => ?_) (fun c_6 => ?_)
  · have c_6 := cs_b0 c_6
    exact absurd (cs_ch ho1) c_6
  · have c_6 := cs_b1 c_6
    refine lv_iload_n hx hb d_Model_apart_9 rfl (lv_at hl 2 rfl) ?_
    refine lv_iconst (v := 0) hx hb d_Model_apart_10 (by decide) ?_
    refine lv_iconst (v := 2) hx hb d_Model_apart_11 (by decide) ?_
    refine cs_Si (As := [.int (nI o2), .int 0, .int 2]) (rest := []) (wr := [(g0, .inr (9, [.ref g1, .ref g2, .ref g3, .ref g4, .ref g5, .ref g6, .ref g7, .ref g8, .ref g9, .ref g10, .ref g11, .ref g12, .ref g13, .ref g14, .ref g15, .int isz, .int ith, .int ico, .int icl, .int irw, .int ibi, .int ien, .int itr, .int ibl, .int ile, .int igr, .int ibk, .int ist, .int ibr])), (g1, .inl (cI, 4, .inl wd)), (g2, .inl (cI, 4, .inl hg)), (g15, .inl (cZ, 4, .inl thr))]) ⟨hx, hb, hml, hown, hts⟩ (c_mo_in l hcI (nI o2) 0 2) (va_cwS 3 hts (cs_gS mw_350 mw_351 mw_349 mw_341) rfl rfl rfl hd_Model_in ⟨Nat.le_of_ble_eq_true rfl, Nat.le_of_ble_eq_true rfl⟩) hN hK hP hD hS hA [] [0, 1, 2, 3] rfl rfl rfl rfl (by decide) rfl rfl hl.1 (Nat.le_of_ble_eq_true rfl) d_Model_apart_12 ⟨Nat.le_of_ble_eq_true rfl, Nat.le_of_ble_eq_true rfl⟩ (fun r2 w1 H locs hw hP hD hS => ?_)
    obtain ⟨rfl, rfl⟩ := hw
    have hP : va_P D vwCl [(g0, .inr (9, [.ref g1, .ref g2, .ref g3, .ref g4, .ref g5, .ref g6, .ref g7, .ref g8, .ref g9, .ref g10, .ref g11, .ref g12, .ref g13, .ref g14, .ref g15, .int isz, .int ith, .int ico, .int icl, .int irw, .int ibi, .int ien, .int itr, .int ibl, .int ile, .int igr, .int ibk, .int ist, .int ibr])), (g1, .inl (cI, 4, .inl wd)), (g2, .inl (cI, 4, .inl hg)), (g15, .inl (cZ, 4, .inl thr))] H := hP
    have hD : va_D A [(g0, .inr (9, [.ref g1, .ref g2, .ref g3, .ref g4, .ref g5, .ref g6, .ref g7, .ref g8, .ref g9, .ref g10, .ref g11, .ref g12, .ref g13, .ref g14, .ref g15, .int isz, .int ith, .int ico, .int icl, .int irw, .int ibi, .int ien, .int itr, .int ibl, .int ile, .int igr, .int ibk, .int ist, .int ibr])), (g1, .inl (cI, 4, .inl wd)), (g2, .inl (cI, 4, .inl hg)), (g15, .inl (cZ, 4, .inl thr))] := hD
    refine lv_if_eq (tgt := 22) hx hb d_Model_apart_15 (by decide) (fun c_15 => ?_) (fun c_15 => ?_)
    · have c_15 := cs_b0 c_15
      exact absurd (cs_ch ho2) c_15
    · have c_15 := cs_b1 c_15
      refine lv_iconst (v := 1) hx hb d_Model_apart_18 (by decide) ?_
      refine lv_goto (tgt := 23) hx hb d_Model_apart_19 (by decide) ?_
      refine lv_istore_n (lv' := [(3, .int 1), (0, .ref g0), (1, .int (nI o1)), (2, .int (nI o2))]) hx hb d_Model_apart_23 rfl hl (by decide) rfl (fun ls hl => ?_)
      refine lv_aload_n hx hb d_Model_apart_24 rfl (lv_at hl 1 rfl) ?_
      refine lv_iload_n hx hb d_Model_apart_25 rfl (lv_at hl 0 rfl) ?_
      refine lv_if_ne (tgt := 33) hx hb d_Model_apart_26 (by decide) (fun c_26 => ?_) (fun c_26 => ?_)
      · refine lv_aload_n hx hb d_Model_apart_33 rfl (lv_at hl 1 rfl) ?_
        refine va_get (D := D) (ci := 9) (v := .ref g15) (C := "TileForgeModel") (T := T_Model) (N := 29) hx hb hts (cs_in in_Model) hown hK hP 0 rfl rfl 14 (by decide) (hts _ (cs_m mw_433)) (fun _ h9 => h9) rfl d_Model_apart_34 ?_
        refine lv_iload_n hx hb d_Model_apart_37 rfl (lv_at hl 2 rfl) ?_
        refine cs_zald (j := o1) hx hb hK hcZ hP 3 rfl (rfl) (by omega) (by decide) d_Model_apart_38 ?_
        refine lv_if_eq (tgt := 51) hx hb d_Model_apart_39 (by decide) (fun c_39 => ?_) (fun c_39 => ?_)
        · exact absurd c_39 ht1
        · refine lv_aload_n hx hb d_Model_apart_42 rfl (lv_at hl 1 rfl) ?_
          refine va_get (D := D) (ci := 9) (v := .ref g15) (C := "TileForgeModel") (T := T_Model) (N := 29) hx hb hts (cs_in in_Model) hown hK hP 0 rfl rfl 14 (by decide) (hts _ (cs_m mw_433)) (fun _ h9 => h9) rfl d_Model_apart_43 ?_
          refine lv_iload_n hx hb d_Model_apart_46 rfl (lv_at hl 3 rfl) ?_
          refine cs_zald (j := o2) hx hb hK hcZ hP 3 rfl (rfl) (by omega) (by decide) d_Model_apart_47 ?_
          refine lv_if_ne (tgt := 55) hx hb d_Model_apart_48 (by decide) (fun c_48 => ?_) (fun c_48 => ?_)
          · refine lv_aload_n hx hb d_Model_apart_55 rfl (lv_at hl 1 rfl) ?_
            refine va_get (D := D) (ci := 9) (v := .ref g1) (C := "TileForgeModel") (T := T_Model) (N := 29) hx hb hts (cs_in in_Model) hown hK hP 0 rfl rfl 0 (by decide) (hts _ (cs_m mw_348)) (fun _ h9 => h9) rfl d_Model_apart_56 ?_
            refine lv_iload_n hx hb d_Model_apart_59 rfl (lv_at hl 2 rfl) ?_
            refine cs_iald (j := o1) hx hb hK hcI hP 1 rfl (rfl) (by omega) (by decide) d_Model_apart_60 ?_
            refine lv_aload_n hx hb d_Model_apart_61 rfl (lv_at hl 1 rfl) ?_
            refine va_get (D := D) (ci := 9) (v := .ref g1) (C := "TileForgeModel") (T := T_Model) (N := 29) hx hb hts (cs_in in_Model) hown hK hP 0 rfl rfl 0 (by decide) (hts _ (cs_m mw_348)) (fun _ h9 => h9) rfl d_Model_apart_62 ?_
            refine lv_iload_n hx hb d_Model_apart_65 rfl (lv_at hl 3 rfl) ?_
            refine cs_iald (j := o2) hx hb hK hcI hP 1 rfl (rfl) (by omega) (by decide) d_Model_apart_66 ?_
            refine lv_icmp_ne (tgt := 85) hx hb d_Model_apart_67 (by decide) (fun c_67 => ?_) (fun c_67 => ?_)
            · refine lv_iconst (v := 3) hx hb d_Model_apart_85 (by decide) ?_
              refine lv_goto (tgt := 90) hx hb d_Model_apart_86 (by decide) ?_
              refine va_put (D := D) (ci := 9) (v := .int 3) (ty := .int) (C := "TileForgeModel") (T := T_Model) (N := 29) hx hb hts (cs_in in_Model) ty_Model tok_Model nm_Model hown hK hP hD hS 0 rfl rfl 16 (by decide) (hts _ (cs_m mw_343)) (fun _ h9 => h9) rfl (by decide +kernel) rfl rfl (Nat.le_of_ble_eq_true rfl) d_Model_apart_90 (fun H locs hP hD hS => ?_)
              have hP : va_P D vwCl [(g0, .inr (9, [.ref g1, .ref g2, .ref g3, .ref g4, .ref g5, .ref g6, .ref g7, .ref g8, .ref g9, .ref g10, .ref g11, .ref g12, .ref g13, .ref g14, .ref g15, .int isz, .int 3, .int ico, .int icl, .int irw, .int ibi, .int ien, .int itr, .int ibl, .int ile, .int igr, .int ibk, .int ist, .int ibr])), (g1, .inl (cI, 4, .inl wd)), (g2, .inl (cI, 4, .inl hg)), (g15, .inl (cZ, 4, .inl thr))] H := hP
              have hD : va_D A [(g0, .inr (9, [.ref g1, .ref g2, .ref g3, .ref g4, .ref g5, .ref g6, .ref g7, .ref g8, .ref g9, .ref g10, .ref g11, .ref g12, .ref g13, .ref g14, .ref g15, .int isz, .int 3, .int ico, .int icl, .int irw, .int ibi, .int ien, .int itr, .int ibl, .int ile, .int igr, .int ibk, .int ist, .int ibr])), (g1, .inl (cI, 4, .inl wd)), (g2, .inl (cI, 4, .inl hg)), (g15, .inl (cZ, 4, .inl thr))] := hD
              refine lv_aload_n hx hb d_Model_apart_93 rfl (lv_at hl 1 rfl) ?_
              refine va_get (D := D) (ci := 9) (v := .int 3) (C := "TileForgeModel") (T := T_Model) (N := 29) hx hb hts (cs_in in_Model) hown hK hP 0 rfl rfl 16 (by decide) (hts _ (cs_m mw_343)) (fun _ h9 => h9) rfl d_Model_apart_94 ?_
              refine lv_if_le (tgt := 102) hx hb d_Model_apart_97 (by decide) (fun c_97 => ?_) (fun c_97 => ?_)
              · exact absurd c_97 (by decide)
              · refine lv_dconst0 hx hb d_Model_apart_100 ?_
                exact W.dret (v := 0) hx hb hr (fun t ht hW => ⟨⟨0, [(g0, .inr (9, [.ref g1, .ref g2, .ref g3, .ref g4, .ref g5, .ref g6, .ref g7, .ref g8, .ref g9, .ref g10, .ref g11, .ref g12, .ref g13, .ref g14, .ref g15, .int isz, .int 3, .int ico, .int icl, .int irw, .int ibi, .int ien, .int itr, .int ibl, .int ile, .int igr, .int ibk, .int ist, .int ibr])), (g1, .inl (cI, 4, .inl wd)), (g2, .inl (cI, 4, .inl hg)), (g15, .inl (cZ, 4, .inl thr))], rfl, ⟨(rfl), (rfl)⟩, by rw [ht]; exact hP, va_K.moved hW.alike hK, hD⟩, hS.F ht⟩) hS.2.2 d_Model_apart_101
            · refine lv_aload_n hx hb d_Model_apart_70 rfl (lv_at hl 1 rfl) ?_
              refine va_get (D := D) (ci := 9) (v := .ref g2) (C := "TileForgeModel") (T := T_Model) (N := 29) hx hb hts (cs_in in_Model) hown hK hP 0 rfl rfl 1 (by decide) (hts _ (cs_m mw_352)) (fun _ h9 => h9) rfl d_Model_apart_71 ?_
              refine lv_iload_n hx hb d_Model_apart_74 rfl (lv_at hl 2 rfl) ?_
              refine cs_iald (j := o1) hx hb hK hcI hP 2 rfl (rfl) (by omega) (by decide) d_Model_apart_75 ?_
              refine lv_aload_n hx hb d_Model_apart_76 rfl (lv_at hl 1 rfl) ?_
              refine va_get (D := D) (ci := 9) (v := .ref g2) (C := "TileForgeModel") (T := T_Model) (N := 29) hx hb hts (cs_in in_Model) hown hK hP 0 rfl rfl 1 (by decide) (hts _ (cs_m mw_352)) (fun _ h9 => h9) rfl d_Model_apart_77 ?_
              refine lv_iload_n hx hb d_Model_apart_80 rfl (lv_at hl 3 rfl) ?_
              refine cs_iald (j := o2) hx hb hK hcI hP 2 rfl (rfl) (by omega) (by decide) d_Model_apart_81 ?_
              refine lv_icmp_eq (tgt := 89) hx hb d_Model_apart_82 (by decide) (fun c_82 => ?_) (fun c_82 => ?_)
              · exact absurd ⟨c_67, c_82⟩ hbad
              · refine lv_iconst (v := 3) hx hb d_Model_apart_85 (by decide) ?_
                refine lv_goto (tgt := 90) hx hb d_Model_apart_86 (by decide) ?_
                refine va_put (D := D) (ci := 9) (v := .int 3) (ty := .int) (C := "TileForgeModel") (T := T_Model) (N := 29) hx hb hts (cs_in in_Model) ty_Model tok_Model nm_Model hown hK hP hD hS 0 rfl rfl 16 (by decide) (hts _ (cs_m mw_343)) (fun _ h9 => h9) rfl (by decide +kernel) rfl rfl (Nat.le_of_ble_eq_true rfl) d_Model_apart_90 (fun H locs hP hD hS => ?_)
                have hP : va_P D vwCl [(g0, .inr (9, [.ref g1, .ref g2, .ref g3, .ref g4, .ref g5, .ref g6, .ref g7, .ref g8, .ref g9, .ref g10, .ref g11, .ref g12, .ref g13, .ref g14, .ref g15, .int isz, .int 3, .int ico, .int icl, .int irw, .int ibi, .int ien, .int itr, .int ibl, .int ile, .int igr, .int ibk, .int ist, .int ibr])), (g1, .inl (cI, 4, .inl wd)), (g2, .inl (cI, 4, .inl hg)), (g15, .inl (cZ, 4, .inl thr))] H := hP
                have hD : va_D A [(g0, .inr (9, [.ref g1, .ref g2, .ref g3, .ref g4, .ref g5, .ref g6, .ref g7, .ref g8, .ref g9, .ref g10, .ref g11, .ref g12, .ref g13, .ref g14, .ref g15, .int isz, .int 3, .int ico, .int icl, .int irw, .int ibi, .int ien, .int itr, .int ibl, .int ile, .int igr, .int ibk, .int ist, .int ibr])), (g1, .inl (cI, 4, .inl wd)), (g2, .inl (cI, 4, .inl hg)), (g15, .inl (cZ, 4, .inl thr))] := hD
                refine lv_aload_n hx hb d_Model_apart_93 rfl (lv_at hl 1 rfl) ?_
                refine va_get (D := D) (ci := 9) (v := .int 3) (C := "TileForgeModel") (T := T_Model) (N := 29) hx hb hts (cs_in in_Model) hown hK hP 0 rfl rfl 16 (by decide) (hts _ (cs_m mw_343)) (fun _ h9 => h9) rfl d_Model_apart_94 ?_
                refine lv_if_le (tgt := 102) hx hb d_Model_apart_97 (by decide) (fun c_97 => ?_) (fun c_97 => ?_)
                · exact absurd c_97 (by decide)
                · refine lv_dconst0 hx hb d_Model_apart_100 ?_
                  exact W.dret (v := 0) hx hb hr (fun t ht hW => ⟨⟨0, [(g0, .inr (9, [.ref g1, .ref g2, .ref g3, .ref g4, .ref g5, .ref g6, .ref g7, .ref g8, .ref g9, .ref g10, .ref g11, .ref g12, .ref g13, .ref g14, .ref g15, .int isz, .int 3, .int ico, .int icl, .int irw, .int ibi, .int ien, .int itr, .int ibl, .int ile, .int igr, .int ibk, .int ist, .int ibr])), (g1, .inl (cI, 4, .inl wd)), (g2, .inl (cI, 4, .inl hg)), (g15, .inl (cZ, 4, .inl thr))], rfl, ⟨(rfl), (rfl)⟩, by rw [ht]; exact hP, va_K.moved hW.alike hK, hD⟩, hS.F ht⟩) hS.2.2 d_Model_apart_101
          · exact absurd c_48 ht2
      · exact absurd c_26 (by decide)
def y_Model_init : MethodName := ⟨"TileForgeModel", "<init>", "()V"⟩
def ws_Model_init : List Cond := .code y_Model_init prog_11_method_1_code 1 none :: GW
theorem mw_455 : (.code ⟨"TileForgeModel", "<init>", "()V"⟩ prog_11_method_1_code 1 none : Cond) ∈ GW := List.mem_filter.mpr ⟨(List.mem_append_right _ (List.mem_append_right _ (List.mem_append_right _ (List.mem_append_left _ (List.mem_of_getElem? (i := 196) rfl))))), rfl⟩
theorem hd_Model_init : y_Model_init.cls ≠ "java/lang/invoke/MethodHandle" ∧ y_Model_init.cls ≠ "java/lang/invoke/VarHandle" ∧ (parseMethodDescriptor y_Model_init.desc).map (fun d => d.parameters.length) = some 0 := by decide +kernel
theorem d_Model_init_0 : decode prog_11_method_1_code 0 = .ok (.aload_n 0, 1) := by decide +kernel
theorem d_Model_init_1 : decode prog_11_method_1_code 1 = .ok (.invokespecial 1, 3) := by decide +kernel
theorem d_Model_init_4 : decode prog_11_method_1_code 4 = .ok (.aload_n 0, 1) := by decide +kernel
theorem d_Model_init_5 : decode prog_11_method_1_code 5 = .ok (.iconst 4, 1) := by decide +kernel
theorem d_Model_init_6 : decode prog_11_method_1_code 6 = .ok (.newarray .int, 2) := by decide +kernel
theorem d_Model_init_8 : decode prog_11_method_1_code 8 = .ok (.putfield 7, 3) := by decide +kernel
theorem d_Model_init_11 : decode prog_11_method_1_code 11 = .ok (.aload_n 0, 1) := by decide +kernel
theorem d_Model_init_12 : decode prog_11_method_1_code 12 = .ok (.iconst 4, 1) := by decide +kernel
theorem d_Model_init_13 : decode prog_11_method_1_code 13 = .ok (.newarray .int, 2) := by decide +kernel
theorem d_Model_init_15 : decode prog_11_method_1_code 15 = .ok (.putfield 13, 3) := by decide +kernel
theorem d_Model_init_18 : decode prog_11_method_1_code 18 = .ok (.aload_n 0, 1) := by decide +kernel
theorem d_Model_init_19 : decode prog_11_method_1_code 19 = .ok (.sipush 576, 3) := by decide +kernel
theorem d_Model_init_22 : decode prog_11_method_1_code 22 = .ok (.newarray .int, 2) := by decide +kernel
theorem d_Model_init_24 : decode prog_11_method_1_code 24 = .ok (.putfield 16, 3) := by decide +kernel
theorem d_Model_init_27 : decode prog_11_method_1_code 27 = .ok (.aload_n 0, 1) := by decide +kernel
theorem d_Model_init_28 : decode prog_11_method_1_code 28 = .ok (.sipush 400, 3) := by decide +kernel
theorem d_Model_init_31 : decode prog_11_method_1_code 31 = .ok (.newarray .int, 2) := by decide +kernel
theorem d_Model_init_33 : decode prog_11_method_1_code 33 = .ok (.putfield 19, 3) := by decide +kernel
theorem d_Model_init_36 : decode prog_11_method_1_code 36 = .ok (.aload_n 0, 1) := by decide +kernel
theorem d_Model_init_37 : decode prog_11_method_1_code 37 = .ok (.sipush 600, 3) := by decide +kernel
theorem d_Model_init_40 : decode prog_11_method_1_code 40 = .ok (.newarray .int, 2) := by decide +kernel
theorem d_Model_init_42 : decode prog_11_method_1_code 42 = .ok (.putfield 22, 3) := by decide +kernel
theorem d_Model_init_45 : decode prog_11_method_1_code 45 = .ok (.aload_n 0, 1) := by decide +kernel
theorem d_Model_init_46 : decode prog_11_method_1_code 46 = .ok (.bipush 16, 2) := by decide +kernel
theorem d_Model_init_48 : decode prog_11_method_1_code 48 = .ok (.newarray .int, 2) := by decide +kernel
theorem d_Model_init_50 : decode prog_11_method_1_code 50 = .ok (.putfield 25, 3) := by decide +kernel
theorem d_Model_init_53 : decode prog_11_method_1_code 53 = .ok (.aload_n 0, 1) := by decide +kernel
theorem d_Model_init_54 : decode prog_11_method_1_code 54 = .ok (.bipush 16, 2) := by decide +kernel
theorem d_Model_init_56 : decode prog_11_method_1_code 56 = .ok (.newarray .int, 2) := by decide +kernel
theorem d_Model_init_58 : decode prog_11_method_1_code 58 = .ok (.putfield 28, 3) := by decide +kernel
theorem d_Model_init_61 : decode prog_11_method_1_code 61 = .ok (.aload_n 0, 1) := by decide +kernel
theorem d_Model_init_62 : decode prog_11_method_1_code 62 = .ok (.bipush 16, 2) := by decide +kernel
theorem d_Model_init_64 : decode prog_11_method_1_code 64 = .ok (.newarray .int, 2) := by decide +kernel
theorem d_Model_init_66 : decode prog_11_method_1_code 66 = .ok (.putfield 31, 3) := by decide +kernel
theorem d_Model_init_69 : decode prog_11_method_1_code 69 = .ok (.aload_n 0, 1) := by decide +kernel
theorem d_Model_init_70 : decode prog_11_method_1_code 70 = .ok (.iconst 4, 1) := by decide +kernel
theorem d_Model_init_71 : decode prog_11_method_1_code 71 = .ok (.newarray .int, 2) := by decide +kernel
theorem d_Model_init_73 : decode prog_11_method_1_code 73 = .ok (.putfield 34, 3) := by decide +kernel
theorem d_Model_init_76 : decode prog_11_method_1_code 76 = .ok (.aload_n 0, 1) := by decide +kernel
theorem d_Model_init_77 : decode prog_11_method_1_code 77 = .ok (.iconst 4, 1) := by decide +kernel
theorem d_Model_init_78 : decode prog_11_method_1_code 78 = .ok (.newarray .int, 2) := by decide +kernel
theorem d_Model_init_80 : decode prog_11_method_1_code 80 = .ok (.putfield 37, 3) := by decide +kernel
theorem d_Model_init_83 : decode prog_11_method_1_code 83 = .ok (.aload_n 0, 1) := by decide +kernel
theorem d_Model_init_84 : decode prog_11_method_1_code 84 = .ok (.bipush 18, 2) := by decide +kernel
theorem d_Model_init_86 : decode prog_11_method_1_code 86 = .ok (.newarray .int, 2) := by decide +kernel
theorem d_Model_init_88 : decode prog_11_method_1_code 88 = .ok (.putfield 40, 3) := by decide +kernel
theorem d_Model_init_91 : decode prog_11_method_1_code 91 = .ok (.aload_n 0, 1) := by decide +kernel
theorem d_Model_init_92 : decode prog_11_method_1_code 92 = .ok (.bipush 9, 2) := by decide +kernel
theorem d_Model_init_94 : decode prog_11_method_1_code 94 = .ok (.newarray .int, 2) := by decide +kernel
theorem d_Model_init_96 : decode prog_11_method_1_code 96 = .ok (.putfield 43, 3) := by decide +kernel
theorem d_Model_init_99 : decode prog_11_method_1_code 99 = .ok (.aload_n 0, 1) := by decide +kernel
theorem d_Model_init_100 : decode prog_11_method_1_code 100 = .ok (.iconst 2, 1) := by decide +kernel
theorem d_Model_init_101 : decode prog_11_method_1_code 101 = .ok (.newarray .int, 2) := by decide +kernel
theorem d_Model_init_103 : decode prog_11_method_1_code 103 = .ok (.putfield 46, 3) := by decide +kernel
theorem d_Model_init_106 : decode prog_11_method_1_code 106 = .ok (.aload_n 0, 1) := by decide +kernel
theorem d_Model_init_107 : decode prog_11_method_1_code 107 = .ok (.iconst 2, 1) := by decide +kernel
theorem d_Model_init_108 : decode prog_11_method_1_code 108 = .ok (.newarray .int, 2) := by decide +kernel
theorem d_Model_init_110 : decode prog_11_method_1_code 110 = .ok (.putfield 49, 3) := by decide +kernel
theorem d_Model_init_113 : decode prog_11_method_1_code 113 = .ok (.aload_n 0, 1) := by decide +kernel
theorem d_Model_init_114 : decode prog_11_method_1_code 114 = .ok (.iconst 4, 1) := by decide +kernel
theorem d_Model_init_115 : decode prog_11_method_1_code 115 = .ok (.newarray .boolean, 2) := by decide +kernel
theorem d_Model_init_117 : decode prog_11_method_1_code 117 = .ok (.putfield 52, 3) := by decide +kernel
theorem d_Model_init_120 : decode prog_11_method_1_code 120 = .ok (.aload_n 0, 1) := by decide +kernel
theorem d_Model_init_121 : decode prog_11_method_1_code 121 = .ok (.getfield 7, 3) := by decide +kernel
theorem d_Model_init_124 : decode prog_11_method_1_code 124 = .ok (.iconst 0, 1) := by decide +kernel
theorem d_Model_init_125 : decode prog_11_method_1_code 125 = .ok (.iconst 4, 1) := by decide +kernel
theorem d_Model_init_126 : decode prog_11_method_1_code 126 = .ok (.iastore, 1) := by decide +kernel
theorem d_Model_init_127 : decode prog_11_method_1_code 127 = .ok (.aload_n 0, 1) := by decide +kernel
theorem d_Model_init_128 : decode prog_11_method_1_code 128 = .ok (.getfield 13, 3) := by decide +kernel
theorem d_Model_init_131 : decode prog_11_method_1_code 131 = .ok (.iconst 0, 1) := by decide +kernel
theorem d_Model_init_132 : decode prog_11_method_1_code 132 = .ok (.iconst 4, 1) := by decide +kernel
theorem d_Model_init_133 : decode prog_11_method_1_code 133 = .ok (.iastore, 1) := by decide +kernel
theorem d_Model_init_134 : decode prog_11_method_1_code 134 = .ok (.aload_n 0, 1) := by decide +kernel
theorem d_Model_init_135 : decode prog_11_method_1_code 135 = .ok (.getfield 52, 3) := by decide +kernel
theorem d_Model_init_138 : decode prog_11_method_1_code 138 = .ok (.iconst 0, 1) := by decide +kernel
theorem d_Model_init_139 : decode prog_11_method_1_code 139 = .ok (.iconst 1, 1) := by decide +kernel
theorem d_Model_init_140 : decode prog_11_method_1_code 140 = .ok (.bastore, 1) := by decide +kernel
theorem d_Model_init_141 : decode prog_11_method_1_code 141 = .ok (.return_, 1) := by decide +kernel
theorem mw_456 : (.methodLink "TileForgeModel" 1 objectInit : Cond) ∈ GW := List.mem_filter.mpr ⟨(List.mem_append_right _ (List.mem_append_right _ (List.mem_append_right _ (List.mem_append_left _ (List.mem_of_getElem? (i := 197) rfl))))), rfl⟩
theorem mw_457 : (.arrayClass .boolean : Cond) ∈ GW := List.mem_filter.mpr ⟨(List.mem_append_right _ (List.mem_append_right _ (List.mem_append_right _ (List.mem_append_right _ (List.mem_of_getElem? (i := 46) rfl))))), rfl⟩
def q_mo_init (cI cZ : ClassId) (g0 : Nat) : va_W → Prop := fun ww => ∃ (g1 : Nat) (g2 : Nat) (g3 : Nat) (g4 : Nat) (g5 : Nat) (g6 : Nat) (g7 : Nat) (g8 : Nat) (g9 : Nat) (g10 : Nat) (g11 : Nat) (g12 : Nat) (g13 : Nat) (g14 : Nat) (g15 : Nat), ww = [(g0, .inr (9, [.ref g1, .ref g2, .ref g3, .ref g4, .ref g5, .ref g6, .ref g7, .ref g8, .ref g9, .ref g10, .ref g11, .ref g12, .ref g13, .ref g14, .ref g15, .int 0, .int 0, .int 0, .int 0, .int 0, .int 0, .int 0, .int 0, .int 0, .int 0, .int 0, .int 0, .int 0, .int 0])), (g1, .inl (cI, 4, .inl (upd (fun _ => 0) 0 4))), (g2, .inl (cI, 4, .inl (upd (fun _ => 0) 0 4))), (g3, .inl (cI, 576, .inl (fun _ => 0))), (g4, .inl (cI, 400, .inl (fun _ => 0))), (g5, .inl (cI, 600, .inl (fun _ => 0))), (g6, .inl (cI, 16, .inl (fun _ => 0))), (g7, .inl (cI, 16, .inl (fun _ => 0))), (g8, .inl (cI, 16, .inl (fun _ => 0))), (g9, .inl (cI, 4, .inl (fun _ => 0))), (g10, .inl (cI, 4, .inl (fun _ => 0))), (g11, .inl (cI, 18, .inl (fun _ => 0))), (g12, .inl (cI, 9, .inl (fun _ => 0))), (g13, .inl (cI, 2, .inl (fun _ => 0))), (g14, .inl (cI, 2, .inl (fun _ => 0))), (g15, .inl (cZ, 4, .inl (upd (fun _ => 0) 0 1)))]
set_option maxHeartbeats 4000000 in
set_option maxRecDepth 100000 in
theorem c_mo_init (l : Launch) {D : va_G} {tys : List (ClassId × FieldType)} {cI cZ : ClassId} (hcI : tys[0]? = some (cI, .int)) (hcZ : tys[3]? = some (cZ, .boolean)) (g0 : Nat) : CsV l D vwCl tys y_Model_init ws_Model_init ({ frames := 1, cells := 15, slots := 1675, locals := 12 } : Room) [.ref g0] [(g0, .inr (9, [.null, .null, .null, .null, .null, .null, .null, .null, .null, .null, .null, .null, .null, .null, .null, .int 0, .int 0, .int 0, .int 0, .int 0, .int 0, .int 0, .int 0, .int 0, .int 0, .int 0, .int 0, .int 0, .int 0]))] (q_mo_init cI cZ g0) 15 1675 := by
  intro sz
  refine Met.ofW (cc := prog_11_method_1_code) (maxL := 1) (ret := none) (by decide) rfl ?_
  intro p e s m args below meth c s₁ B hml hv
  obtain ⟨rfl, hsz, hP, hK, hD0, hN⟩ := hv
  have hx := B.exec
  have hb := B.bytes
  have hr := B.returns
  have hts := atoms_spec (ws := ws_Model_init) B.pre
  have hown : s.vm.findClass "TileForgeModel" = some m.cls := findClass_of_methodNamed B.named
  have hlocks := B.notSynchronized
  have hin : meth.name = "<init>" := (name_of_methodNamed B.named B.method).1
  subst hsz
  have hD := hD0.self (sz := s.heap.size)
  generalize hAe : va_A [(g0, .inr (9, [.null, .null, .null, .null, .null, .null, .null, .null, .null, .null, .null, .null, .null, .null, .null, .int 0, .int 0, .int 0, .int 0, .int 0, .int 0, .int 0, .int 0, .int 0, .int 0, .int 0, .int 0, .int 0, .int 0]))] s.heap.size = A at hD ⊢
  have hA : ∀ q : Nat, s.heap.size ≤ q → A q := fun q h => by rw [← hAe]; exact Or.inr h
  have hS : va_S A s.heap s.heap [] := va_S.rf
  have hP : va_P D vwCl [(g0, .inr (9, [.null, .null, .null, .null, .null, .null, .null, .null, .null, .null, .null, .null, .null, .null, .null, .int 0, .int 0, .int 0, .int 0, .int 0, .int 0, .int 0, .int 0, .int 0, .int 0, .int 0, .int 0, .int 0, .int 0]))] s.heap := hP
  have hl := lv_entry ([.ref g0]) (n := 1) (Nat.le_of_ble_eq_true rfl)
  rw [lg_entry_eq]
  generalize (lg_sl ([.ref g0]) ++ List.replicate (1 - (lg_sl ([.ref g0])).length) Slot.unset).toArray = ls at hl ⊢
  have hl : lv_has ls 1 [(0, .ref g0)] := hl
  refine lv_aload_n hx hb d_Model_init_0 rfl (lv_at hl 0 rfl) ?_
  refine W.objInit hx hb hown (hts _ (cs_m mw_456)) (hts _ (cs_m mw_81)) (hts _ (cs_m mw_82)) rfl (by rw [hml]; exact hl.1) rfl d_Model_init_1 (Nat.le_of_ble_eq_true rfl) (Nat.le_of_ble_eq_true rfl) ?_
  refine W.eq (g2 := F0 m 4 ls []) rfl ?_
  refine lv_aload_n hx hb d_Model_init_4 rfl (lv_at hl 0 rfl) ?_
  refine lv_iconst (v := 4) hx hb d_Model_init_5 (by decide) ?_
  refine cs_newi (N := 4) hx hb (hts _ (cs_m mw_83)) hK hcI hP hD hS hA (by decide) rfl (by decide) (Nat.le_of_ble_eq_true rfl) (Nat.le_of_ble_eq_true rfl) d_Model_init_6 (fun q1 H hP hD hS => ?_)
  have hP : va_P D vwCl [(g0, .inr (9, [.null, .null, .null, .null, .null, .null, .null, .null, .null, .null, .null, .null, .null, .null, .null, .int 0, .int 0, .int 0, .int 0, .int 0, .int 0, .int 0, .int 0, .int 0, .int 0, .int 0, .int 0, .int 0, .int 0])), (q1, .inl (cI, 4, .inl (fun _ => 0)))] H := hP
  have hD : va_D A [(g0, .inr (9, [.null, .null, .null, .null, .null, .null, .null, .null, .null, .null, .null, .null, .null, .null, .null, .int 0, .int 0, .int 0, .int 0, .int 0, .int 0, .int 0, .int 0, .int 0, .int 0, .int 0, .int 0, .int 0, .int 0])), (q1, .inl (cI, 4, .inl (fun _ => 0)))] := hD
  refine va_putF (D := D) (ci := 9) (v := .ref q1) (ty := .array .int) (C := "TileForgeModel") (T := T_Model) (N := 29) hx hb hts (cs_in in_Model) ty_Model tok_Model nm_Model hown hK hP hD hS 0 rfl rfl 0 (by decide) (hts _ (cs_m mw_348)) (fun _ h9 => h9) rfl hin rfl (by decide +kernel) rfl rfl (Nat.le_of_ble_eq_true rfl) d_Model_init_8 (fun H locs hP hD hS => ?_)
  have hP : va_P D vwCl [(g0, .inr (9, [.ref q1, .null, .null, .null, .null, .null, .null, .null, .null, .null, .null, .null, .null, .null, .null, .int 0, .int 0, .int 0, .int 0, .int 0, .int 0, .int 0, .int 0, .int 0, .int 0, .int 0, .int 0, .int 0, .int 0])), (q1, .inl (cI, 4, .inl (fun _ => 0)))] H := hP
  have hD : va_D A [(g0, .inr (9, [.ref q1, .null, .null, .null, .null, .null, .null, .null, .null, .null, .null, .null, .null, .null, .null, .int 0, .int 0, .int 0, .int 0, .int 0, .int 0, .int 0, .int 0, .int 0, .int 0, .int 0, .int 0, .int 0, .int 0])), (q1, .inl (cI, 4, .inl (fun _ => 0)))] := hD
  refine lv_aload_n hx hb d_Model_init_11 rfl (lv_at hl 0 rfl) ?_
  refine lv_iconst (v := 4) hx hb d_Model_init_12 (by decide) ?_
  refine cs_newi (N := 4) hx hb (hts _ (cs_m mw_83)) hK hcI hP hD hS hA (by decide) rfl (by decide) (Nat.le_of_ble_eq_true rfl) (Nat.le_of_ble_eq_true rfl) d_Model_init_13 (fun q2 H hP hD hS => ?_)
  have hP : va_P D vwCl [(g0, .inr (9, [.ref q1, .null, .null, .null, .null, .null, .null, .null, .null, .null, .null, .null, .null, .null, .null, .int 0, .int 0, .int 0, .int 0, .int 0, .int 0, .int 0, .int 0, .int 0, .int 0, .int 0, .int 0, .int 0, .int 0])), (q1, .inl (cI, 4, .inl (fun _ => 0))), (q2, .inl (cI, 4, .inl (fun _ => 0)))] H := hP
  have hD : va_D A [(g0, .inr (9, [.ref q1, .null, .null, .null, .null, .null, .null, .null, .null, .null, .null, .null, .null, .null, .null, .int 0, .int 0, .int 0, .int 0, .int 0, .int 0, .int 0, .int 0, .int 0, .int 0, .int 0, .int 0, .int 0, .int 0])), (q1, .inl (cI, 4, .inl (fun _ => 0))), (q2, .inl (cI, 4, .inl (fun _ => 0)))] := hD
  refine va_putF (D := D) (ci := 9) (v := .ref q2) (ty := .array .int) (C := "TileForgeModel") (T := T_Model) (N := 29) hx hb hts (cs_in in_Model) ty_Model tok_Model nm_Model hown hK hP hD hS 0 rfl rfl 1 (by decide) (hts _ (cs_m mw_352)) (fun _ h9 => h9) rfl hin rfl (by decide +kernel) rfl rfl (Nat.le_of_ble_eq_true rfl) d_Model_init_15 (fun H locs hP hD hS => ?_)
  have hP : va_P D vwCl [(g0, .inr (9, [.ref q1, .ref q2, .null, .null, .null, .null, .null, .null, .null, .null, .null, .null, .null, .null, .null, .int 0, .int 0, .int 0, .int 0, .int 0, .int 0, .int 0, .int 0, .int 0, .int 0, .int 0, .int 0, .int 0, .int 0])), (q1, .inl (cI, 4, .inl (fun _ => 0))), (q2, .inl (cI, 4, .inl (fun _ => 0)))] H := hP
  have hD : va_D A [(g0, .inr (9, [.ref q1, .ref q2, .null, .null, .null, .null, .null, .null, .null, .null, .null, .null, .null, .null, .null, .int 0, .int 0, .int 0, .int 0, .int 0, .int 0, .int 0, .int 0, .int 0, .int 0, .int 0, .int 0, .int 0, .int 0])), (q1, .inl (cI, 4, .inl (fun _ => 0))), (q2, .inl (cI, 4, .inl (fun _ => 0)))] := hD
  refine lv_aload_n hx hb d_Model_init_18 rfl (lv_at hl 0 rfl) ?_
  refine lv_sipush (v := 576) hx hb d_Model_init_19 (by decide) ?_
  refine cs_newi (N := 576) hx hb (hts _ (cs_m mw_83)) hK hcI hP hD hS hA (by decide) rfl (by decide) (Nat.le_of_ble_eq_true rfl) (Nat.le_of_ble_eq_true rfl) d_Model_init_22 (fun q3 H hP hD hS => ?_)
  have hP : va_P D vwCl [(g0, .inr (9, [.ref q1, .ref q2, .null, .null, .null, .null, .null, .null, .null, .null, .null, .null, .null, .null, .null, .int 0, .int 0, .int 0, .int 0, .int 0, .int 0, .int 0, .int 0, .int 0, .int 0, .int 0, .int 0, .int 0, .int 0])), (q1, .inl (cI, 4, .inl (fun _ => 0))), (q2, .inl (cI, 4, .inl (fun _ => 0))), (q3, .inl (cI, 576, .inl (fun _ => 0)))] H := hP
  have hD : va_D A [(g0, .inr (9, [.ref q1, .ref q2, .null, .null, .null, .null, .null, .null, .null, .null, .null, .null, .null, .null, .null, .int 0, .int 0, .int 0, .int 0, .int 0, .int 0, .int 0, .int 0, .int 0, .int 0, .int 0, .int 0, .int 0, .int 0])), (q1, .inl (cI, 4, .inl (fun _ => 0))), (q2, .inl (cI, 4, .inl (fun _ => 0))), (q3, .inl (cI, 576, .inl (fun _ => 0)))] := hD
  refine va_putF (D := D) (ci := 9) (v := .ref q3) (ty := .array .int) (C := "TileForgeModel") (T := T_Model) (N := 29) hx hb hts (cs_in in_Model) ty_Model tok_Model nm_Model hown hK hP hD hS 0 rfl rfl 2 (by decide) (hts _ (cs_m mw_354)) (fun _ h9 => h9) rfl hin rfl (by decide +kernel) rfl rfl (Nat.le_of_ble_eq_true rfl) d_Model_init_24 (fun H locs hP hD hS => ?_)
  have hP : va_P D vwCl [(g0, .inr (9, [.ref q1, .ref q2, .ref q3, .null, .null, .null, .null, .null, .null, .null, .null, .null, .null, .null, .null, .int 0, .int 0, .int 0, .int 0, .int 0, .int 0, .int 0, .int 0, .int 0, .int 0, .int 0, .int 0, .int 0, .int 0])), (q1, .inl (cI, 4, .inl (fun _ => 0))), (q2, .inl (cI, 4, .inl (fun _ => 0))), (q3, .inl (cI, 576, .inl (fun _ => 0)))] H := hP
  have hD : va_D A [(g0, .inr (9, [.ref q1, .ref q2, .ref q3, .null, .null, .null, .null, .null, .null, .null, .null, .null, .null, .null, .null, .int 0, .int 0, .int 0, .int 0, .int 0, .int 0, .int 0, .int 0, .int 0, .int 0, .int 0, .int 0, .int 0, .int 0])), (q1, .inl (cI, 4, .inl (fun _ => 0))), (q2, .inl (cI, 4, .inl (fun _ => 0))), (q3, .inl (cI, 576, .inl (fun _ => 0)))] := hD
  refine lv_aload_n hx hb d_Model_init_27 rfl (lv_at hl 0 rfl) ?_
  refine lv_sipush (v := 400) hx hb d_Model_init_28 (by decide) ?_
  refine cs_newi (N := 400) hx hb (hts _ (cs_m mw_83)) hK hcI hP hD hS hA (by decide) rfl (by decide) (Nat.le_of_ble_eq_true rfl) (Nat.le_of_ble_eq_true rfl) d_Model_init_31 (fun q4 H hP hD hS => ?_)
  have hP : va_P D vwCl [(g0, .inr (9, [.ref q1, .ref q2, .ref q3, .null, .null, .null, .null, .null, .null, .null, .null, .null, .null, .null, .null, .int 0, .int 0, .int 0, .int 0, .int 0, .int 0, .int 0, .int 0, .int 0, .int 0, .int 0, .int 0, .int 0, .int 0])), (q1, .inl (cI, 4, .inl (fun _ => 0))), (q2, .inl (cI, 4, .inl (fun _ => 0))), (q3, .inl (cI, 576, .inl (fun _ => 0))), (q4, .inl (cI, 400, .inl (fun _ => 0)))] H := hP
  have hD : va_D A [(g0, .inr (9, [.ref q1, .ref q2, .ref q3, .null, .null, .null, .null, .null, .null, .null, .null, .null, .null, .null, .null, .int 0, .int 0, .int 0, .int 0, .int 0, .int 0, .int 0, .int 0, .int 0, .int 0, .int 0, .int 0, .int 0, .int 0])), (q1, .inl (cI, 4, .inl (fun _ => 0))), (q2, .inl (cI, 4, .inl (fun _ => 0))), (q3, .inl (cI, 576, .inl (fun _ => 0))), (q4, .inl (cI, 400, .inl (fun _ => 0)))] := hD
  refine va_putF (D := D) (ci := 9) (v := .ref q4) (ty := .array .int) (C := "TileForgeModel") (T := T_Model) (N := 29) hx hb hts (cs_in in_Model) ty_Model tok_Model nm_Model hown hK hP hD hS 0 rfl rfl 3 (by decide) (hts _ (cs_m mw_422)) (fun _ h9 => h9) rfl hin rfl (by decide +kernel) rfl rfl (Nat.le_of_ble_eq_true rfl) d_Model_init_33 (fun H locs hP hD hS => ?_)
  have hP : va_P D vwCl [(g0, .inr (9, [.ref q1, .ref q2, .ref q3, .ref q4, .null, .null, .null, .null, .null, .null, .null, .null, .null, .null, .null, .int 0, .int 0, .int 0, .int 0, .int 0, .int 0, .int 0, .int 0, .int 0, .int 0, .int 0, .int 0, .int 0, .int 0])), (q1, .inl (cI, 4, .inl (fun _ => 0))), (q2, .inl (cI, 4, .inl (fun _ => 0))), (q3, .inl (cI, 576, .inl (fun _ => 0))), (q4, .inl (cI, 400, .inl (fun _ => 0)))] H := hP
  have hD : va_D A [(g0, .inr (9, [.ref q1, .ref q2, .ref q3, .ref q4, .null, .null, .null, .null, .null, .null, .null, .null, .null, .null, .null, .int 0, .int 0, .int 0, .int 0, .int 0, .int 0, .int 0, .int 0, .int 0, .int 0, .int 0, .int 0, .int 0, .int 0])), (q1, .inl (cI, 4, .inl (fun _ => 0))), (q2, .inl (cI, 4, .inl (fun _ => 0))), (q3, .inl (cI, 576, .inl (fun _ => 0))), (q4, .inl (cI, 400, .inl (fun _ => 0)))] := hD
  refine lv_aload_n hx hb d_Model_init_36 rfl (lv_at hl 0 rfl) ?_
  refine lv_sipush (v := 600) hx hb d_Model_init_37 (by decide) ?_
  refine cs_newi (N := 600) hx hb (hts _ (cs_m mw_83)) hK hcI hP hD hS hA (by decide) rfl (by decide) (Nat.le_of_ble_eq_true rfl) (Nat.le_of_ble_eq_true rfl) d_Model_init_40 (fun q5 H hP hD hS => ?_)
  have hP : va_P D vwCl [(g0, .inr (9, [.ref q1, .ref q2, .ref q3, .ref q4, .null, .null, .null, .null, .null, .null, .null, .null, .null, .null, .null, .int 0, .int 0, .int 0, .int 0, .int 0, .int 0, .int 0, .int 0, .int 0, .int 0, .int 0, .int 0, .int 0, .int 0])), (q1, .inl (cI, 4, .inl (fun _ => 0))), (q2, .inl (cI, 4, .inl (fun _ => 0))), (q3, .inl (cI, 576, .inl (fun _ => 0))), (q4, .inl (cI, 400, .inl (fun _ => 0))), (q5, .inl (cI, 600, .inl (fun _ => 0)))] H := hP
  have hD : va_D A [(g0, .inr (9, [.ref q1, .ref q2, .ref q3, .ref q4, .null, .null, .null, .null, .null, .null, .null, .null, .null, .null, .null, .int 0, .int 0, .int 0, .int 0, .int 0, .int 0, .int 0, .int 0, .int 0, .int 0, .int 0, .int 0, .int 0, .int 0])), (q1, .inl (cI, 4, .inl (fun _ => 0))), (q2, .inl (cI, 4, .inl (fun _ => 0))), (q3, .inl (cI, 576, .inl (fun _ => 0))), (q4, .inl (cI, 400, .inl (fun _ => 0))), (q5, .inl (cI, 600, .inl (fun _ => 0)))] := hD
  refine va_putF (D := D) (ci := 9) (v := .ref q5) (ty := .array .int) (C := "TileForgeModel") (T := T_Model) (N := 29) hx hb hts (cs_in in_Model) ty_Model tok_Model nm_Model hown hK hP hD hS 0 rfl rfl 4 (by decide) (hts _ (cs_m mw_391)) (fun _ h9 => h9) rfl hin rfl (by decide +kernel) rfl rfl (Nat.le_of_ble_eq_true rfl) d_Model_init_42 (fun H locs hP hD hS => ?_)
  have hP : va_P D vwCl [(g0, .inr (9, [.ref q1, .ref q2, .ref q3, .ref q4, .ref q5, .null, .null, .null, .null, .null, .null, .null, .null, .null, .null, .int 0, .int 0, .int 0, .int 0, .int 0, .int 0, .int 0, .int 0, .int 0, .int 0, .int 0, .int 0, .int 0, .int 0])), (q1, .inl (cI, 4, .inl (fun _ => 0))), (q2, .inl (cI, 4, .inl (fun _ => 0))), (q3, .inl (cI, 576, .inl (fun _ => 0))), (q4, .inl (cI, 400, .inl (fun _ => 0))), (q5, .inl (cI, 600, .inl (fun _ => 0)))] H := hP
  have hD : va_D A [(g0, .inr (9, [.ref q1, .ref q2, .ref q3, .ref q4, .ref q5, .null, .null, .null, .null, .null, .null, .null, .null, .null, .null, .int 0, .int 0, .int 0, .int 0, .int 0, .int 0, .int 0, .int 0, .int 0, .int 0, .int 0, .int 0, .int 0, .int 0])), (q1, .inl (cI, 4, .inl (fun _ => 0))), (q2, .inl (cI, 4, .inl (fun _ => 0))), (q3, .inl (cI, 576, .inl (fun _ => 0))), (q4, .inl (cI, 400, .inl (fun _ => 0))), (q5, .inl (cI, 600, .inl (fun _ => 0)))] := hD
  refine lv_aload_n hx hb d_Model_init_45 rfl (lv_at hl 0 rfl) ?_
  refine lv_bipush (v := 16) hx hb d_Model_init_46 (by decide) ?_
  refine cs_newi (N := 16) hx hb (hts _ (cs_m mw_83)) hK hcI hP hD hS hA (by decide) rfl (by decide) (Nat.le_of_ble_eq_true rfl) (Nat.le_of_ble_eq_true rfl) d_Model_init_48 (fun q6 H hP hD hS => ?_)
  have hP : va_P D vwCl [(g0, .inr (9, [.ref q1, .ref q2, .ref q3, .ref q4, .ref q5, .null, .null, .null, .null, .null, .null, .null, .null, .null, .null, .int 0, .int 0, .int 0, .int 0, .int 0, .int 0, .int 0, .int 0, .int 0, .int 0, .int 0, .int 0, .int 0, .int 0])), (q1, .inl (cI, 4, .inl (fun _ => 0))), (q2, .inl (cI, 4, .inl (fun _ => 0))), (q3, .inl (cI, 576, .inl (fun _ => 0))), (q4, .inl (cI, 400, .inl (fun _ => 0))), (q5, .inl (cI, 600, .inl (fun _ => 0))), (q6, .inl (cI, 16, .inl (fun _ => 0)))] H := hP
  have hD : va_D A [(g0, .inr (9, [.ref q1, .ref q2, .ref q3, .ref q4, .ref q5, .null, .null, .null, .null, .null, .null, .null, .null, .null, .null, .int 0, .int 0, .int 0, .int 0, .int 0, .int 0, .int 0, .int 0, .int 0, .int 0, .int 0, .int 0, .int 0, .int 0])), (q1, .inl (cI, 4, .inl (fun _ => 0))), (q2, .inl (cI, 4, .inl (fun _ => 0))), (q3, .inl (cI, 576, .inl (fun _ => 0))), (q4, .inl (cI, 400, .inl (fun _ => 0))), (q5, .inl (cI, 600, .inl (fun _ => 0))), (q6, .inl (cI, 16, .inl (fun _ => 0)))] := hD
  refine va_putF (D := D) (ci := 9) (v := .ref q6) (ty := .array .int) (C := "TileForgeModel") (T := T_Model) (N := 29) hx hb hts (cs_in in_Model) ty_Model tok_Model nm_Model hown hK hP hD hS 0 rfl rfl 5 (by decide) (hts _ (cs_m mw_370)) (fun _ h9 => h9) rfl hin rfl (by decide +kernel) rfl rfl (Nat.le_of_ble_eq_true rfl) d_Model_init_50 (fun H locs hP hD hS => ?_)
  have hP : va_P D vwCl [(g0, .inr (9, [.ref q1, .ref q2, .ref q3, .ref q4, .ref q5, .ref q6, .null, .null, .null, .null, .null, .null, .null, .null, .null, .int 0, .int 0, .int 0, .int 0, .int 0, .int 0, .int 0, .int 0, .int 0, .int 0, .int 0, .int 0, .int 0, .int 0])), (q1, .inl (cI, 4, .inl (fun _ => 0))), (q2, .inl (cI, 4, .inl (fun _ => 0))), (q3, .inl (cI, 576, .inl (fun _ => 0))), (q4, .inl (cI, 400, .inl (fun _ => 0))), (q5, .inl (cI, 600, .inl (fun _ => 0))), (q6, .inl (cI, 16, .inl (fun _ => 0)))] H := hP
  have hD : va_D A [(g0, .inr (9, [.ref q1, .ref q2, .ref q3, .ref q4, .ref q5, .ref q6, .null, .null, .null, .null, .null, .null, .null, .null, .null, .int 0, .int 0, .int 0, .int 0, .int 0, .int 0, .int 0, .int 0, .int 0, .int 0, .int 0, .int 0, .int 0, .int 0])), (q1, .inl (cI, 4, .inl (fun _ => 0))), (q2, .inl (cI, 4, .inl (fun _ => 0))), (q3, .inl (cI, 576, .inl (fun _ => 0))), (q4, .inl (cI, 400, .inl (fun _ => 0))), (q5, .inl (cI, 600, .inl (fun _ => 0))), (q6, .inl (cI, 16, .inl (fun _ => 0)))] := hD
  refine lv_aload_n hx hb d_Model_init_53 rfl (lv_at hl 0 rfl) ?_
  refine lv_bipush (v := 16) hx hb d_Model_init_54 (by decide) ?_
  refine cs_newi (N := 16) hx hb (hts _ (cs_m mw_83)) hK hcI hP hD hS hA (by decide) rfl (by decide) (Nat.le_of_ble_eq_true rfl) (Nat.le_of_ble_eq_true rfl) d_Model_init_56 (fun q7 H hP hD hS => ?_)
  have hP : va_P D vwCl [(g0, .inr (9, [.ref q1, .ref q2, .ref q3, .ref q4, .ref q5, .ref q6, .null, .null, .null, .null, .null, .null, .null, .null, .null, .int 0, .int 0, .int 0, .int 0, .int 0, .int 0, .int 0, .int 0, .int 0, .int 0, .int 0, .int 0, .int 0, .int 0])), (q1, .inl (cI, 4, .inl (fun _ => 0))), (q2, .inl (cI, 4, .inl (fun _ => 0))), (q3, .inl (cI, 576, .inl (fun _ => 0))), (q4, .inl (cI, 400, .inl (fun _ => 0))), (q5, .inl (cI, 600, .inl (fun _ => 0))), (q6, .inl (cI, 16, .inl (fun _ => 0))), (q7, .inl (cI, 16, .inl (fun _ => 0)))] H := hP
  have hD : va_D A [(g0, .inr (9, [.ref q1, .ref q2, .ref q3, .ref q4, .ref q5, .ref q6, .null, .null, .null, .null, .null, .null, .null, .null, .null, .int 0, .int 0, .int 0, .int 0, .int 0, .int 0, .int 0, .int 0, .int 0, .int 0, .int 0, .int 0, .int 0, .int 0])), (q1, .inl (cI, 4, .inl (fun _ => 0))), (q2, .inl (cI, 4, .inl (fun _ => 0))), (q3, .inl (cI, 576, .inl (fun _ => 0))), (q4, .inl (cI, 400, .inl (fun _ => 0))), (q5, .inl (cI, 600, .inl (fun _ => 0))), (q6, .inl (cI, 16, .inl (fun _ => 0))), (q7, .inl (cI, 16, .inl (fun _ => 0)))] := hD
  refine va_putF (D := D) (ci := 9) (v := .ref q7) (ty := .array .int) (C := "TileForgeModel") (T := T_Model) (N := 29) hx hb hts (cs_in in_Model) ty_Model tok_Model nm_Model hown hK hP hD hS 0 rfl rfl 6 (by decide) (hts _ (cs_m mw_383)) (fun _ h9 => h9) rfl hin rfl (by decide +kernel) rfl rfl (Nat.le_of_ble_eq_true rfl) d_Model_init_58 (fun H locs hP hD hS => ?_)
  have hP : va_P D vwCl [(g0, .inr (9, [.ref q1, .ref q2, .ref q3, .ref q4, .ref q5, .ref q6, .ref q7, .null, .null, .null, .null, .null, .null, .null, .null, .int 0, .int 0, .int 0, .int 0, .int 0, .int 0, .int 0, .int 0, .int 0, .int 0, .int 0, .int 0, .int 0, .int 0])), (q1, .inl (cI, 4, .inl (fun _ => 0))), (q2, .inl (cI, 4, .inl (fun _ => 0))), (q3, .inl (cI, 576, .inl (fun _ => 0))), (q4, .inl (cI, 400, .inl (fun _ => 0))), (q5, .inl (cI, 600, .inl (fun _ => 0))), (q6, .inl (cI, 16, .inl (fun _ => 0))), (q7, .inl (cI, 16, .inl (fun _ => 0)))] H := hP
  have hD : va_D A [(g0, .inr (9, [.ref q1, .ref q2, .ref q3, .ref q4, .ref q5, .ref q6, .ref q7, .null, .null, .null, .null, .null, .null, .null, .null, .int 0, .int 0, .int 0, .int 0, .int 0, .int 0, .int 0, .int 0, .int 0, .int 0, .int 0, .int 0, .int 0, .int 0])), (q1, .inl (cI, 4, .inl (fun _ => 0))), (q2, .inl (cI, 4, .inl (fun _ => 0))), (q3, .inl (cI, 576, .inl (fun _ => 0))), (q4, .inl (cI, 400, .inl (fun _ => 0))), (q5, .inl (cI, 600, .inl (fun _ => 0))), (q6, .inl (cI, 16, .inl (fun _ => 0))), (q7, .inl (cI, 16, .inl (fun _ => 0)))] := hD
  refine lv_aload_n hx hb d_Model_init_61 rfl (lv_at hl 0 rfl) ?_
  refine lv_bipush (v := 16) hx hb d_Model_init_62 (by decide) ?_
  refine cs_newi (N := 16) hx hb (hts _ (cs_m mw_83)) hK hcI hP hD hS hA (by decide) rfl (by decide) (Nat.le_of_ble_eq_true rfl) (Nat.le_of_ble_eq_true rfl) d_Model_init_64 (fun q8 H hP hD hS => ?_)
  have hP : va_P D vwCl [(g0, .inr (9, [.ref q1, .ref q2, .ref q3, .ref q4, .ref q5, .ref q6, .ref q7, .null, .null, .null, .null, .null, .null, .null, .null, .int 0, .int 0, .int 0, .int 0, .int 0, .int 0, .int 0, .int 0, .int 0, .int 0, .int 0, .int 0, .int 0, .int 0])), (q1, .inl (cI, 4, .inl (fun _ => 0))), (q2, .inl (cI, 4, .inl (fun _ => 0))), (q3, .inl (cI, 576, .inl (fun _ => 0))), (q4, .inl (cI, 400, .inl (fun _ => 0))), (q5, .inl (cI, 600, .inl (fun _ => 0))), (q6, .inl (cI, 16, .inl (fun _ => 0))), (q7, .inl (cI, 16, .inl (fun _ => 0))), (q8, .inl (cI, 16, .inl (fun _ => 0)))] H := hP
  have hD : va_D A [(g0, .inr (9, [.ref q1, .ref q2, .ref q3, .ref q4, .ref q5, .ref q6, .ref q7, .null, .null, .null, .null, .null, .null, .null, .null, .int 0, .int 0, .int 0, .int 0, .int 0, .int 0, .int 0, .int 0, .int 0, .int 0, .int 0, .int 0, .int 0, .int 0])), (q1, .inl (cI, 4, .inl (fun _ => 0))), (q2, .inl (cI, 4, .inl (fun _ => 0))), (q3, .inl (cI, 576, .inl (fun _ => 0))), (q4, .inl (cI, 400, .inl (fun _ => 0))), (q5, .inl (cI, 600, .inl (fun _ => 0))), (q6, .inl (cI, 16, .inl (fun _ => 0))), (q7, .inl (cI, 16, .inl (fun _ => 0))), (q8, .inl (cI, 16, .inl (fun _ => 0)))] := hD
  refine va_putF (D := D) (ci := 9) (v := .ref q8) (ty := .array .int) (C := "TileForgeModel") (T := T_Model) (N := 29) hx hb hts (cs_in in_Model) ty_Model tok_Model nm_Model hown hK hP hD hS 0 rfl rfl 7 (by decide) (hts _ (cs_m mw_379)) (fun _ h9 => h9) rfl hin rfl (by decide +kernel) rfl rfl (Nat.le_of_ble_eq_true rfl) d_Model_init_66 (fun H locs hP hD hS => ?_)
  have hP : va_P D vwCl [(g0, .inr (9, [.ref q1, .ref q2, .ref q3, .ref q4, .ref q5, .ref q6, .ref q7, .ref q8, .null, .null, .null, .null, .null, .null, .null, .int 0, .int 0, .int 0, .int 0, .int 0, .int 0, .int 0, .int 0, .int 0, .int 0, .int 0, .int 0, .int 0, .int 0])), (q1, .inl (cI, 4, .inl (fun _ => 0))), (q2, .inl (cI, 4, .inl (fun _ => 0))), (q3, .inl (cI, 576, .inl (fun _ => 0))), (q4, .inl (cI, 400, .inl (fun _ => 0))), (q5, .inl (cI, 600, .inl (fun _ => 0))), (q6, .inl (cI, 16, .inl (fun _ => 0))), (q7, .inl (cI, 16, .inl (fun _ => 0))), (q8, .inl (cI, 16, .inl (fun _ => 0)))] H := hP
  have hD : va_D A [(g0, .inr (9, [.ref q1, .ref q2, .ref q3, .ref q4, .ref q5, .ref q6, .ref q7, .ref q8, .null, .null, .null, .null, .null, .null, .null, .int 0, .int 0, .int 0, .int 0, .int 0, .int 0, .int 0, .int 0, .int 0, .int 0, .int 0, .int 0, .int 0, .int 0])), (q1, .inl (cI, 4, .inl (fun _ => 0))), (q2, .inl (cI, 4, .inl (fun _ => 0))), (q3, .inl (cI, 576, .inl (fun _ => 0))), (q4, .inl (cI, 400, .inl (fun _ => 0))), (q5, .inl (cI, 600, .inl (fun _ => 0))), (q6, .inl (cI, 16, .inl (fun _ => 0))), (q7, .inl (cI, 16, .inl (fun _ => 0))), (q8, .inl (cI, 16, .inl (fun _ => 0)))] := hD
  refine lv_aload_n hx hb d_Model_init_69 rfl (lv_at hl 0 rfl) ?_
  refine lv_iconst (v := 4) hx hb d_Model_init_70 (by decide) ?_
  refine cs_newi (N := 4) hx hb (hts _ (cs_m mw_83)) hK hcI hP hD hS hA (by decide) rfl (by decide) (Nat.le_of_ble_eq_true rfl) (Nat.le_of_ble_eq_true rfl) d_Model_init_71 (fun q9 H hP hD hS => ?_)
  have hP : va_P D vwCl [(g0, .inr (9, [.ref q1, .ref q2, .ref q3, .ref q4, .ref q5, .ref q6, .ref q7, .ref q8, .null, .null, .null, .null, .null, .null, .null, .int 0, .int 0, .int 0, .int 0, .int 0, .int 0, .int 0, .int 0, .int 0, .int 0, .int 0, .int 0, .int 0, .int 0])), (q1, .inl (cI, 4, .inl (fun _ => 0))), (q2, .inl (cI, 4, .inl (fun _ => 0))), (q3, .inl (cI, 576, .inl (fun _ => 0))), (q4, .inl (cI, 400, .inl (fun _ => 0))), (q5, .inl (cI, 600, .inl (fun _ => 0))), (q6, .inl (cI, 16, .inl (fun _ => 0))), (q7, .inl (cI, 16, .inl (fun _ => 0))), (q8, .inl (cI, 16, .inl (fun _ => 0))), (q9, .inl (cI, 4, .inl (fun _ => 0)))] H := hP
  have hD : va_D A [(g0, .inr (9, [.ref q1, .ref q2, .ref q3, .ref q4, .ref q5, .ref q6, .ref q7, .ref q8, .null, .null, .null, .null, .null, .null, .null, .int 0, .int 0, .int 0, .int 0, .int 0, .int 0, .int 0, .int 0, .int 0, .int 0, .int 0, .int 0, .int 0, .int 0])), (q1, .inl (cI, 4, .inl (fun _ => 0))), (q2, .inl (cI, 4, .inl (fun _ => 0))), (q3, .inl (cI, 576, .inl (fun _ => 0))), (q4, .inl (cI, 400, .inl (fun _ => 0))), (q5, .inl (cI, 600, .inl (fun _ => 0))), (q6, .inl (cI, 16, .inl (fun _ => 0))), (q7, .inl (cI, 16, .inl (fun _ => 0))), (q8, .inl (cI, 16, .inl (fun _ => 0))), (q9, .inl (cI, 4, .inl (fun _ => 0)))] := hD
  refine va_putF (D := D) (ci := 9) (v := .ref q9) (ty := .array .int) (C := "TileForgeModel") (T := T_Model) (N := 29) hx hb hts (cs_in in_Model) ty_Model tok_Model nm_Model hown hK hP hD hS 0 rfl rfl 8 (by decide) (hts _ (cs_m mw_360)) (fun _ h9 => h9) rfl hin rfl (by decide +kernel) rfl rfl (Nat.le_of_ble_eq_true rfl) d_Model_init_73 (fun H locs hP hD hS => ?_)
  have hP : va_P D vwCl [(g0, .inr (9, [.ref q1, .ref q2, .ref q3, .ref q4, .ref q5, .ref q6, .ref q7, .ref q8, .ref q9, .null, .null, .null, .null, .null, .null, .int 0, .int 0, .int 0, .int 0, .int 0, .int 0, .int 0, .int 0, .int 0, .int 0, .int 0, .int 0, .int 0, .int 0])), (q1, .inl (cI, 4, .inl (fun _ => 0))), (q2, .inl (cI, 4, .inl (fun _ => 0))), (q3, .inl (cI, 576, .inl (fun _ => 0))), (q4, .inl (cI, 400, .inl (fun _ => 0))), (q5, .inl (cI, 600, .inl (fun _ => 0))), (q6, .inl (cI, 16, .inl (fun _ => 0))), (q7, .inl (cI, 16, .inl (fun _ => 0))), (q8, .inl (cI, 16, .inl (fun _ => 0))), (q9, .inl (cI, 4, .inl (fun _ => 0)))] H := hP
  have hD : va_D A [(g0, .inr (9, [.ref q1, .ref q2, .ref q3, .ref q4, .ref q5, .ref q6, .ref q7, .ref q8, .ref q9, .null, .null, .null, .null, .null, .null, .int 0, .int 0, .int 0, .int 0, .int 0, .int 0, .int 0, .int 0, .int 0, .int 0, .int 0, .int 0, .int 0, .int 0])), (q1, .inl (cI, 4, .inl (fun _ => 0))), (q2, .inl (cI, 4, .inl (fun _ => 0))), (q3, .inl (cI, 576, .inl (fun _ => 0))), (q4, .inl (cI, 400, .inl (fun _ => 0))), (q5, .inl (cI, 600, .inl (fun _ => 0))), (q6, .inl (cI, 16, .inl (fun _ => 0))), (q7, .inl (cI, 16, .inl (fun _ => 0))), (q8, .inl (cI, 16, .inl (fun _ => 0))), (q9, .inl (cI, 4, .inl (fun _ => 0)))] := hD
  refine lv_aload_n hx hb d_Model_init_76 rfl (lv_at hl 0 rfl) ?_
  refine lv_iconst (v := 4) hx hb d_Model_init_77 (by decide) ?_
  refine cs_newi (N := 4) hx hb (hts _ (cs_m mw_83)) hK hcI hP hD hS hA (by decide) rfl (by decide) (Nat.le_of_ble_eq_true rfl) (Nat.le_of_ble_eq_true rfl) d_Model_init_78 (fun q10 H hP hD hS => ?_)
  have hP : va_P D vwCl [(g0, .inr (9, [.ref q1, .ref q2, .ref q3, .ref q4, .ref q5, .ref q6, .ref q7, .ref q8, .ref q9, .null, .null, .null, .null, .null, .null, .int 0, .int 0, .int 0, .int 0, .int 0, .int 0, .int 0, .int 0, .int 0, .int 0, .int 0, .int 0, .int 0, .int 0])), (q1, .inl (cI, 4, .inl (fun _ => 0))), (q2, .inl (cI, 4, .inl (fun _ => 0))), (q3, .inl (cI, 576, .inl (fun _ => 0))), (q4, .inl (cI, 400, .inl (fun _ => 0))), (q5, .inl (cI, 600, .inl (fun _ => 0))), (q6, .inl (cI, 16, .inl (fun _ => 0))), (q7, .inl (cI, 16, .inl (fun _ => 0))), (q8, .inl (cI, 16, .inl (fun _ => 0))), (q9, .inl (cI, 4, .inl (fun _ => 0))), (q10, .inl (cI, 4, .inl (fun _ => 0)))] H := hP
  have hD : va_D A [(g0, .inr (9, [.ref q1, .ref q2, .ref q3, .ref q4, .ref q5, .ref q6, .ref q7, .ref q8, .ref q9, .null, .null, .null, .null, .null, .null, .int 0, .int 0, .int 0, .int 0, .int 0, .int 0, .int 0, .int 0, .int 0, .int 0, .int 0, .int 0, .int 0, .int 0])), (q1, .inl (cI, 4, .inl (fun _ => 0))), (q2, .inl (cI, 4, .inl (fun _ => 0))), (q3, .inl (cI, 576, .inl (fun _ => 0))), (q4, .inl (cI, 400, .inl (fun _ => 0))), (q5, .inl (cI, 600, .inl (fun _ => 0))), (q6, .inl (cI, 16, .inl (fun _ => 0))), (q7, .inl (cI, 16, .inl (fun _ => 0))), (q8, .inl (cI, 16, .inl (fun _ => 0))), (q9, .inl (cI, 4, .inl (fun _ => 0))), (q10, .inl (cI, 4, .inl (fun _ => 0)))] := hD
  refine va_putF (D := D) (ci := 9) (v := .ref q10) (ty := .array .int) (C := "TileForgeModel") (T := T_Model) (N := 29) hx hb hts (cs_in in_Model) ty_Model tok_Model nm_Model hown hK hP hD hS 0 rfl rfl 9 (by decide) (hts _ (cs_m mw_361)) (fun _ h9 => h9) rfl hin rfl (by decide +kernel) rfl rfl (Nat.le_of_ble_eq_true rfl) d_Model_init_80 (fun H locs hP hD hS => ?_)
  have hP : va_P D vwCl [(g0, .inr (9, [.ref q1, .ref q2, .ref q3, .ref q4, .ref q5, .ref q6, .ref q7, .ref q8, .ref q9, .ref q10, .null, .null, .null, .null, .null, .int 0, .int 0, .int 0, .int 0, .int 0, .int 0, .int 0, .int 0, .int 0, .int 0, .int 0, .int 0, .int 0, .int 0])), (q1, .inl (cI, 4, .inl (fun _ => 0))), (q2, .inl (cI, 4, .inl (fun _ => 0))), (q3, .inl (cI, 576, .inl (fun _ => 0))), (q4, .inl (cI, 400, .inl (fun _ => 0))), (q5, .inl (cI, 600, .inl (fun _ => 0))), (q6, .inl (cI, 16, .inl (fun _ => 0))), (q7, .inl (cI, 16, .inl (fun _ => 0))), (q8, .inl (cI, 16, .inl (fun _ => 0))), (q9, .inl (cI, 4, .inl (fun _ => 0))), (q10, .inl (cI, 4, .inl (fun _ => 0)))] H := hP
  have hD : va_D A [(g0, .inr (9, [.ref q1, .ref q2, .ref q3, .ref q4, .ref q5, .ref q6, .ref q7, .ref q8, .ref q9, .ref q10, .null, .null, .null, .null, .null, .int 0, .int 0, .int 0, .int 0, .int 0, .int 0, .int 0, .int 0, .int 0, .int 0, .int 0, .int 0, .int 0, .int 0])), (q1, .inl (cI, 4, .inl (fun _ => 0))), (q2, .inl (cI, 4, .inl (fun _ => 0))), (q3, .inl (cI, 576, .inl (fun _ => 0))), (q4, .inl (cI, 400, .inl (fun _ => 0))), (q5, .inl (cI, 600, .inl (fun _ => 0))), (q6, .inl (cI, 16, .inl (fun _ => 0))), (q7, .inl (cI, 16, .inl (fun _ => 0))), (q8, .inl (cI, 16, .inl (fun _ => 0))), (q9, .inl (cI, 4, .inl (fun _ => 0))), (q10, .inl (cI, 4, .inl (fun _ => 0)))] := hD
  refine lv_aload_n hx hb d_Model_init_83 rfl (lv_at hl 0 rfl) ?_
  refine lv_bipush (v := 18) hx hb d_Model_init_84 (by decide) ?_
  refine cs_newi (N := 18) hx hb (hts _ (cs_m mw_83)) hK hcI hP hD hS hA (by decide) rfl (by decide) (Nat.le_of_ble_eq_true rfl) (Nat.le_of_ble_eq_true rfl) d_Model_init_86 (fun q11 H hP hD hS => ?_)
  have hP : va_P D vwCl [(g0, .inr (9, [.ref q1, .ref q2, .ref q3, .ref q4, .ref q5, .ref q6, .ref q7, .ref q8, .ref q9, .ref q10, .null, .null, .null, .null, .null, .int 0, .int 0, .int 0, .int 0, .int 0, .int 0, .int 0, .int 0, .int 0, .int 0, .int 0, .int 0, .int 0, .int 0])), (q1, .inl (cI, 4, .inl (fun _ => 0))), (q2, .inl (cI, 4, .inl (fun _ => 0))), (q3, .inl (cI, 576, .inl (fun _ => 0))), (q4, .inl (cI, 400, .inl (fun _ => 0))), (q5, .inl (cI, 600, .inl (fun _ => 0))), (q6, .inl (cI, 16, .inl (fun _ => 0))), (q7, .inl (cI, 16, .inl (fun _ => 0))), (q8, .inl (cI, 16, .inl (fun _ => 0))), (q9, .inl (cI, 4, .inl (fun _ => 0))), (q10, .inl (cI, 4, .inl (fun _ => 0))), (q11, .inl (cI, 18, .inl (fun _ => 0)))] H := hP
  have hD : va_D A [(g0, .inr (9, [.ref q1, .ref q2, .ref q3, .ref q4, .ref q5, .ref q6, .ref q7, .ref q8, .ref q9, .ref q10, .null, .null, .null, .null, .null, .int 0, .int 0, .int 0, .int 0, .int 0, .int 0, .int 0, .int 0, .int 0, .int 0, .int 0, .int 0, .int 0, .int 0])), (q1, .inl (cI, 4, .inl (fun _ => 0))), (q2, .inl (cI, 4, .inl (fun _ => 0))), (q3, .inl (cI, 576, .inl (fun _ => 0))), (q4, .inl (cI, 400, .inl (fun _ => 0))), (q5, .inl (cI, 600, .inl (fun _ => 0))), (q6, .inl (cI, 16, .inl (fun _ => 0))), (q7, .inl (cI, 16, .inl (fun _ => 0))), (q8, .inl (cI, 16, .inl (fun _ => 0))), (q9, .inl (cI, 4, .inl (fun _ => 0))), (q10, .inl (cI, 4, .inl (fun _ => 0))), (q11, .inl (cI, 18, .inl (fun _ => 0)))] := hD
  refine va_putF (D := D) (ci := 9) (v := .ref q11) (ty := .array .int) (C := "TileForgeModel") (T := T_Model) (N := 29) hx hb hts (cs_in in_Model) ty_Model tok_Model nm_Model hown hK hP hD hS 0 rfl rfl 10 (by decide) (hts _ (cs_m mw_428)) (fun _ h9 => h9) rfl hin rfl (by decide +kernel) rfl rfl (Nat.le_of_ble_eq_true rfl) d_Model_init_88 (fun H locs hP hD hS => ?_)
  have hP : va_P D vwCl [(g0, .inr (9, [.ref q1, .ref q2, .ref q3, .ref q4, .ref q5, .ref q6, .ref q7, .ref q8, .ref q9, .ref q10, .ref q11, .null, .null, .null, .null, .int 0, .int 0, .int 0, .int 0, .int 0, .int 0, .int 0, .int 0, .int 0, .int 0, .int 0, .int 0, .int 0, .int 0])), (q1, .inl (cI, 4, .inl (fun _ => 0))), (q2, .inl (cI, 4, .inl (fun _ => 0))), (q3, .inl (cI, 576, .inl (fun _ => 0))), (q4, .inl (cI, 400, .inl (fun _ => 0))), (q5, .inl (cI, 600, .inl (fun _ => 0))), (q6, .inl (cI, 16, .inl (fun _ => 0))), (q7, .inl (cI, 16, .inl (fun _ => 0))), (q8, .inl (cI, 16, .inl (fun _ => 0))), (q9, .inl (cI, 4, .inl (fun _ => 0))), (q10, .inl (cI, 4, .inl (fun _ => 0))), (q11, .inl (cI, 18, .inl (fun _ => 0)))] H := hP
  have hD : va_D A [(g0, .inr (9, [.ref q1, .ref q2, .ref q3, .ref q4, .ref q5, .ref q6, .ref q7, .ref q8, .ref q9, .ref q10, .ref q11, .null, .null, .null, .null, .int 0, .int 0, .int 0, .int 0, .int 0, .int 0, .int 0, .int 0, .int 0, .int 0, .int 0, .int 0, .int 0, .int 0])), (q1, .inl (cI, 4, .inl (fun _ => 0))), (q2, .inl (cI, 4, .inl (fun _ => 0))), (q3, .inl (cI, 576, .inl (fun _ => 0))), (q4, .inl (cI, 400, .inl (fun _ => 0))), (q5, .inl (cI, 600, .inl (fun _ => 0))), (q6, .inl (cI, 16, .inl (fun _ => 0))), (q7, .inl (cI, 16, .inl (fun _ => 0))), (q8, .inl (cI, 16, .inl (fun _ => 0))), (q9, .inl (cI, 4, .inl (fun _ => 0))), (q10, .inl (cI, 4, .inl (fun _ => 0))), (q11, .inl (cI, 18, .inl (fun _ => 0)))] := hD
  refine lv_aload_n hx hb d_Model_init_91 rfl (lv_at hl 0 rfl) ?_
  refine lv_bipush (v := 9) hx hb d_Model_init_92 (by decide) ?_
  refine cs_newi (N := 9) hx hb (hts _ (cs_m mw_83)) hK hcI hP hD hS hA (by decide) rfl (by decide) (Nat.le_of_ble_eq_true rfl) (Nat.le_of_ble_eq_true rfl) d_Model_init_94 (fun q12 H hP hD hS => ?_)
  have hP : va_P D vwCl [(g0, .inr (9, [.ref q1, .ref q2, .ref q3, .ref q4, .ref q5, .ref q6, .ref q7, .ref q8, .ref q9, .ref q10, .ref q11, .null, .null, .null, .null, .int 0, .int 0, .int 0, .int 0, .int 0, .int 0, .int 0, .int 0, .int 0, .int 0, .int 0, .int 0, .int 0, .int 0])), (q1, .inl (cI, 4, .inl (fun _ => 0))), (q2, .inl (cI, 4, .inl (fun _ => 0))), (q3, .inl (cI, 576, .inl (fun _ => 0))), (q4, .inl (cI, 400, .inl (fun _ => 0))), (q5, .inl (cI, 600, .inl (fun _ => 0))), (q6, .inl (cI, 16, .inl (fun _ => 0))), (q7, .inl (cI, 16, .inl (fun _ => 0))), (q8, .inl (cI, 16, .inl (fun _ => 0))), (q9, .inl (cI, 4, .inl (fun _ => 0))), (q10, .inl (cI, 4, .inl (fun _ => 0))), (q11, .inl (cI, 18, .inl (fun _ => 0))), (q12, .inl (cI, 9, .inl (fun _ => 0)))] H := hP
  have hD : va_D A [(g0, .inr (9, [.ref q1, .ref q2, .ref q3, .ref q4, .ref q5, .ref q6, .ref q7, .ref q8, .ref q9, .ref q10, .ref q11, .null, .null, .null, .null, .int 0, .int 0, .int 0, .int 0, .int 0, .int 0, .int 0, .int 0, .int 0, .int 0, .int 0, .int 0, .int 0, .int 0])), (q1, .inl (cI, 4, .inl (fun _ => 0))), (q2, .inl (cI, 4, .inl (fun _ => 0))), (q3, .inl (cI, 576, .inl (fun _ => 0))), (q4, .inl (cI, 400, .inl (fun _ => 0))), (q5, .inl (cI, 600, .inl (fun _ => 0))), (q6, .inl (cI, 16, .inl (fun _ => 0))), (q7, .inl (cI, 16, .inl (fun _ => 0))), (q8, .inl (cI, 16, .inl (fun _ => 0))), (q9, .inl (cI, 4, .inl (fun _ => 0))), (q10, .inl (cI, 4, .inl (fun _ => 0))), (q11, .inl (cI, 18, .inl (fun _ => 0))), (q12, .inl (cI, 9, .inl (fun _ => 0)))] := hD
  refine va_putF (D := D) (ci := 9) (v := .ref q12) (ty := .array .int) (C := "TileForgeModel") (T := T_Model) (N := 29) hx hb hts (cs_in in_Model) ty_Model tok_Model nm_Model hown hK hP hD hS 0 rfl rfl 11 (by decide) (hts _ (cs_m mw_410)) (fun _ h9 => h9) rfl hin rfl (by decide +kernel) rfl rfl (Nat.le_of_ble_eq_true rfl) d_Model_init_96 (fun H locs hP hD hS => ?_)
  have hP : va_P D vwCl [(g0, .inr (9, [.ref q1, .ref q2, .ref q3, .ref q4, .ref q5, .ref q6, .ref q7, .ref q8, .ref q9, .ref q10, .ref q11, .ref q12, .null, .null, .null, .int 0, .int 0, .int 0, .int 0, .int 0, .int 0, .int 0, .int 0, .int 0, .int 0, .int 0, .int 0, .int 0, .int 0])), (q1, .inl (cI, 4, .inl (fun _ => 0))), (q2, .inl (cI, 4, .inl (fun _ => 0))), (q3, .inl (cI, 576, .inl (fun _ => 0))), (q4, .inl (cI, 400, .inl (fun _ => 0))), (q5, .inl (cI, 600, .inl (fun _ => 0))), (q6, .inl (cI, 16, .inl (fun _ => 0))), (q7, .inl (cI, 16, .inl (fun _ => 0))), (q8, .inl (cI, 16, .inl (fun _ => 0))), (q9, .inl (cI, 4, .inl (fun _ => 0))), (q10, .inl (cI, 4, .inl (fun _ => 0))), (q11, .inl (cI, 18, .inl (fun _ => 0))), (q12, .inl (cI, 9, .inl (fun _ => 0)))] H := hP
  have hD : va_D A [(g0, .inr (9, [.ref q1, .ref q2, .ref q3, .ref q4, .ref q5, .ref q6, .ref q7, .ref q8, .ref q9, .ref q10, .ref q11, .ref q12, .null, .null, .null, .int 0, .int 0, .int 0, .int 0, .int 0, .int 0, .int 0, .int 0, .int 0, .int 0, .int 0, .int 0, .int 0, .int 0])), (q1, .inl (cI, 4, .inl (fun _ => 0))), (q2, .inl (cI, 4, .inl (fun _ => 0))), (q3, .inl (cI, 576, .inl (fun _ => 0))), (q4, .inl (cI, 400, .inl (fun _ => 0))), (q5, .inl (cI, 600, .inl (fun _ => 0))), (q6, .inl (cI, 16, .inl (fun _ => 0))), (q7, .inl (cI, 16, .inl (fun _ => 0))), (q8, .inl (cI, 16, .inl (fun _ => 0))), (q9, .inl (cI, 4, .inl (fun _ => 0))), (q10, .inl (cI, 4, .inl (fun _ => 0))), (q11, .inl (cI, 18, .inl (fun _ => 0))), (q12, .inl (cI, 9, .inl (fun _ => 0)))] := hD
  refine lv_aload_n hx hb d_Model_init_99 rfl (lv_at hl 0 rfl) ?_
  refine lv_iconst (v := 2) hx hb d_Model_init_100 (by decide) ?_
  refine cs_newi (N := 2) hx hb (hts _ (cs_m mw_83)) hK hcI hP hD hS hA (by decide) rfl (by decide) (Nat.le_of_ble_eq_true rfl) (Nat.le_of_ble_eq_true rfl) d_Model_init_101 (fun q13 H hP hD hS => ?_)
  have hP : va_P D vwCl [(g0, .inr (9, [.ref q1, .ref q2, .ref q3, .ref q4, .ref q5, .ref q6, .ref q7, .ref q8, .ref q9, .ref q10, .ref q11, .ref q12, .null, .null, .null, .int 0, .int 0, .int 0, .int 0, .int 0, .int 0, .int 0, .int 0, .int 0, .int 0, .int 0, .int 0, .int 0, .int 0])), (q1, .inl (cI, 4, .inl (fun _ => 0))), (q2, .inl (cI, 4, .inl (fun _ => 0))), (q3, .inl (cI, 576, .inl (fun _ => 0))), (q4, .inl (cI, 400, .inl (fun _ => 0))), (q5, .inl (cI, 600, .inl (fun _ => 0))), (q6, .inl (cI, 16, .inl (fun _ => 0))), (q7, .inl (cI, 16, .inl (fun _ => 0))), (q8, .inl (cI, 16, .inl (fun _ => 0))), (q9, .inl (cI, 4, .inl (fun _ => 0))), (q10, .inl (cI, 4, .inl (fun _ => 0))), (q11, .inl (cI, 18, .inl (fun _ => 0))), (q12, .inl (cI, 9, .inl (fun _ => 0))), (q13, .inl (cI, 2, .inl (fun _ => 0)))] H := hP
  have hD : va_D A [(g0, .inr (9, [.ref q1, .ref q2, .ref q3, .ref q4, .ref q5, .ref q6, .ref q7, .ref q8, .ref q9, .ref q10, .ref q11, .ref q12, .null, .null, .null, .int 0, .int 0, .int 0, .int 0, .int 0, .int 0, .int 0, .int 0, .int 0, .int 0, .int 0, .int 0, .int 0, .int 0])), (q1, .inl (cI, 4, .inl (fun _ => 0))), (q2, .inl (cI, 4, .inl (fun _ => 0))), (q3, .inl (cI, 576, .inl (fun _ => 0))), (q4, .inl (cI, 400, .inl (fun _ => 0))), (q5, .inl (cI, 600, .inl (fun _ => 0))), (q6, .inl (cI, 16, .inl (fun _ => 0))), (q7, .inl (cI, 16, .inl (fun _ => 0))), (q8, .inl (cI, 16, .inl (fun _ => 0))), (q9, .inl (cI, 4, .inl (fun _ => 0))), (q10, .inl (cI, 4, .inl (fun _ => 0))), (q11, .inl (cI, 18, .inl (fun _ => 0))), (q12, .inl (cI, 9, .inl (fun _ => 0))), (q13, .inl (cI, 2, .inl (fun _ => 0)))] := hD
  refine va_putF (D := D) (ci := 9) (v := .ref q13) (ty := .array .int) (C := "TileForgeModel") (T := T_Model) (N := 29) hx hb hts (cs_in in_Model) ty_Model tok_Model nm_Model hown hK hP hD hS 0 rfl rfl 12 (by decide) (hts _ (cs_m mw_385)) (fun _ h9 => h9) rfl hin rfl (by decide +kernel) rfl rfl (Nat.le_of_ble_eq_true rfl) d_Model_init_103 (fun H locs hP hD hS => ?_)
  have hP : va_P D vwCl [(g0, .inr (9, [.ref q1, .ref q2, .ref q3, .ref q4, .ref q5, .ref q6, .ref q7, .ref q8, .ref q9, .ref q10, .ref q11, .ref q12, .ref q13, .null, .null, .int 0, .int 0, .int 0, .int 0, .int 0, .int 0, .int 0, .int 0, .int 0, .int 0, .int 0, .int 0, .int 0, .int 0])), (q1, .inl (cI, 4, .inl (fun _ => 0))), (q2, .inl (cI, 4, .inl (fun _ => 0))), (q3, .inl (cI, 576, .inl (fun _ => 0))), (q4, .inl (cI, 400, .inl (fun _ => 0))), (q5, .inl (cI, 600, .inl (fun _ => 0))), (q6, .inl (cI, 16, .inl (fun _ => 0))), (q7, .inl (cI, 16, .inl (fun _ => 0))), (q8, .inl (cI, 16, .inl (fun _ => 0))), (q9, .inl (cI, 4, .inl (fun _ => 0))), (q10, .inl (cI, 4, .inl (fun _ => 0))), (q11, .inl (cI, 18, .inl (fun _ => 0))), (q12, .inl (cI, 9, .inl (fun _ => 0))), (q13, .inl (cI, 2, .inl (fun _ => 0)))] H := hP
  have hD : va_D A [(g0, .inr (9, [.ref q1, .ref q2, .ref q3, .ref q4, .ref q5, .ref q6, .ref q7, .ref q8, .ref q9, .ref q10, .ref q11, .ref q12, .ref q13, .null, .null, .int 0, .int 0, .int 0, .int 0, .int 0, .int 0, .int 0, .int 0, .int 0, .int 0, .int 0, .int 0, .int 0, .int 0])), (q1, .inl (cI, 4, .inl (fun _ => 0))), (q2, .inl (cI, 4, .inl (fun _ => 0))), (q3, .inl (cI, 576, .inl (fun _ => 0))), (q4, .inl (cI, 400, .inl (fun _ => 0))), (q5, .inl (cI, 600, .inl (fun _ => 0))), (q6, .inl (cI, 16, .inl (fun _ => 0))), (q7, .inl (cI, 16, .inl (fun _ => 0))), (q8, .inl (cI, 16, .inl (fun _ => 0))), (q9, .inl (cI, 4, .inl (fun _ => 0))), (q10, .inl (cI, 4, .inl (fun _ => 0))), (q11, .inl (cI, 18, .inl (fun _ => 0))), (q12, .inl (cI, 9, .inl (fun _ => 0))), (q13, .inl (cI, 2, .inl (fun _ => 0)))] := hD
  refine lv_aload_n hx hb d_Model_init_106 rfl (lv_at hl 0 rfl) ?_
  refine lv_iconst (v := 2) hx hb d_Model_init_107 (by decide) ?_
  refine cs_newi (N := 2) hx hb (hts _ (cs_m mw_83)) hK hcI hP hD hS hA (by decide) rfl (by decide) (Nat.le_of_ble_eq_true rfl) (Nat.le_of_ble_eq_true rfl) d_Model_init_108 (fun q14 H hP hD hS => ?_)
  have hP : va_P D vwCl [(g0, .inr (9, [.ref q1, .ref q2, .ref q3, .ref q4, .ref q5, .ref q6, .ref q7, .ref q8, .ref q9, .ref q10, .ref q11, .ref q12, .ref q13, .null, .null, .int 0, .int 0, .int 0, .int 0, .int 0, .int 0, .int 0, .int 0, .int 0, .int 0, .int 0, .int 0, .int 0, .int 0])), (q1, .inl (cI, 4, .inl (fun _ => 0))), (q2, .inl (cI, 4, .inl (fun _ => 0))), (q3, .inl (cI, 576, .inl (fun _ => 0))), (q4, .inl (cI, 400, .inl (fun _ => 0))), (q5, .inl (cI, 600, .inl (fun _ => 0))), (q6, .inl (cI, 16, .inl (fun _ => 0))), (q7, .inl (cI, 16, .inl (fun _ => 0))), (q8, .inl (cI, 16, .inl (fun _ => 0))), (q9, .inl (cI, 4, .inl (fun _ => 0))), (q10, .inl (cI, 4, .inl (fun _ => 0))), (q11, .inl (cI, 18, .inl (fun _ => 0))), (q12, .inl (cI, 9, .inl (fun _ => 0))), (q13, .inl (cI, 2, .inl (fun _ => 0))), (q14, .inl (cI, 2, .inl (fun _ => 0)))] H := hP
  have hD : va_D A [(g0, .inr (9, [.ref q1, .ref q2, .ref q3, .ref q4, .ref q5, .ref q6, .ref q7, .ref q8, .ref q9, .ref q10, .ref q11, .ref q12, .ref q13, .null, .null, .int 0, .int 0, .int 0, .int 0, .int 0, .int 0, .int 0, .int 0, .int 0, .int 0, .int 0, .int 0, .int 0, .int 0])), (q1, .inl (cI, 4, .inl (fun _ => 0))), (q2, .inl (cI, 4, .inl (fun _ => 0))), (q3, .inl (cI, 576, .inl (fun _ => 0))), (q4, .inl (cI, 400, .inl (fun _ => 0))), (q5, .inl (cI, 600, .inl (fun _ => 0))), (q6, .inl (cI, 16, .inl (fun _ => 0))), (q7, .inl (cI, 16, .inl (fun _ => 0))), (q8, .inl (cI, 16, .inl (fun _ => 0))), (q9, .inl (cI, 4, .inl (fun _ => 0))), (q10, .inl (cI, 4, .inl (fun _ => 0))), (q11, .inl (cI, 18, .inl (fun _ => 0))), (q12, .inl (cI, 9, .inl (fun _ => 0))), (q13, .inl (cI, 2, .inl (fun _ => 0))), (q14, .inl (cI, 2, .inl (fun _ => 0)))] := hD
  refine va_putF (D := D) (ci := 9) (v := .ref q14) (ty := .array .int) (C := "TileForgeModel") (T := T_Model) (N := 29) hx hb hts (cs_in in_Model) ty_Model tok_Model nm_Model hown hK hP hD hS 0 rfl rfl 13 (by decide) (hts _ (cs_m mw_386)) (fun _ h9 => h9) rfl hin rfl (by decide +kernel) rfl rfl (Nat.le_of_ble_eq_true rfl) d_Model_init_110 (fun H locs hP hD hS => ?_)
  have hP : va_P D vwCl [(g0, .inr (9, [.ref q1, .ref q2, .ref q3, .ref q4, .ref q5, .ref q6, .ref q7, .ref q8, .ref q9, .ref q10, .ref q11, .ref q12, .ref q13, .ref q14, .null, .int 0, .int 0, .int 0, .int 0, .int 0, .int 0, .int 0, .int 0, .int 0, .int 0, .int 0, .int 0, .int 0, .int 0])), (q1, .inl (cI, 4, .inl (fun _ => 0))), (q2, .inl (cI, 4, .inl (fun _ => 0))), (q3, .inl (cI, 576, .inl (fun _ => 0))), (q4, .inl (cI, 400, .inl (fun _ => 0))), (q5, .inl (cI, 600, .inl (fun _ => 0))), (q6, .inl (cI, 16, .inl (fun _ => 0))), (q7, .inl (cI, 16, .inl (fun _ => 0))), (q8, .inl (cI, 16, .inl (fun _ => 0))), (q9, .inl (cI, 4, .inl (fun _ => 0))), (q10, .inl (cI, 4, .inl (fun _ => 0))), (q11, .inl (cI, 18, .inl (fun _ => 0))), (q12, .inl (cI, 9, .inl (fun _ => 0))), (q13, .inl (cI, 2, .inl (fun _ => 0))), (q14, .inl (cI, 2, .inl (fun _ => 0)))] H := hP
  have hD : va_D A [(g0, .inr (9, [.ref q1, .ref q2, .ref q3, .ref q4, .ref q5, .ref q6, .ref q7, .ref q8, .ref q9, .ref q10, .ref q11, .ref q12, .ref q13, .ref q14, .null, .int 0, .int 0, .int 0, .int 0, .int 0, .int 0, .int 0, .int 0, .int 0, .int 0, .int 0, .int 0, .int 0, .int 0])), (q1, .inl (cI, 4, .inl (fun _ => 0))), (q2, .inl (cI, 4, .inl (fun _ => 0))), (q3, .inl (cI, 576, .inl (fun _ => 0))), (q4, .inl (cI, 400, .inl (fun _ => 0))), (q5, .inl (cI, 600, .inl (fun _ => 0))), (q6, .inl (cI, 16, .inl (fun _ => 0))), (q7, .inl (cI, 16, .inl (fun _ => 0))), (q8, .inl (cI, 16, .inl (fun _ => 0))), (q9, .inl (cI, 4, .inl (fun _ => 0))), (q10, .inl (cI, 4, .inl (fun _ => 0))), (q11, .inl (cI, 18, .inl (fun _ => 0))), (q12, .inl (cI, 9, .inl (fun _ => 0))), (q13, .inl (cI, 2, .inl (fun _ => 0))), (q14, .inl (cI, 2, .inl (fun _ => 0)))] := hD
  refine lv_aload_n hx hb d_Model_init_113 rfl (lv_at hl 0 rfl) ?_
  refine lv_iconst (v := 4) hx hb d_Model_init_114 (by decide) ?_
  refine cs_newz (N := 4) hx hb (hts _ (cs_m mw_457)) hK hcZ hP hD hS hA (by decide) rfl (by decide) (Nat.le_of_ble_eq_true rfl) (Nat.le_of_ble_eq_true rfl) d_Model_init_115 (fun q15 H hP hD hS => ?_)
  have hP : va_P D vwCl [(g0, .inr (9, [.ref q1, .ref q2, .ref q3, .ref q4, .ref q5, .ref q6, .ref q7, .ref q8, .ref q9, .ref q10, .ref q11, .ref q12, .ref q13, .ref q14, .null, .int 0, .int 0, .int 0, .int 0, .int 0, .int 0, .int 0, .int 0, .int 0, .int 0, .int 0, .int 0, .int 0, .int 0])), (q1, .inl (cI, 4, .inl (fun _ => 0))), (q2, .inl (cI, 4, .inl (fun _ => 0))), (q3, .inl (cI, 576, .inl (fun _ => 0))), (q4, .inl (cI, 400, .inl (fun _ => 0))), (q5, .inl (cI, 600, .inl (fun _ => 0))), (q6, .inl (cI, 16, .inl (fun _ => 0))), (q7, .inl (cI, 16, .inl (fun _ => 0))), (q8, .inl (cI, 16, .inl (fun _ => 0))), (q9, .inl (cI, 4, .inl (fun _ => 0))), (q10, .inl (cI, 4, .inl (fun _ => 0))), (q11, .inl (cI, 18, .inl (fun _ => 0))), (q12, .inl (cI, 9, .inl (fun _ => 0))), (q13, .inl (cI, 2, .inl (fun _ => 0))), (q14, .inl (cI, 2, .inl (fun _ => 0))), (q15, .inl (cZ, 4, .inl (fun _ => 0)))] H := hP
  have hD : va_D A [(g0, .inr (9, [.ref q1, .ref q2, .ref q3, .ref q4, .ref q5, .ref q6, .ref q7, .ref q8, .ref q9, .ref q10, .ref q11, .ref q12, .ref q13, .ref q14, .null, .int 0, .int 0, .int 0, .int 0, .int 0, .int 0, .int 0, .int 0, .int 0, .int 0, .int 0, .int 0, .int 0, .int 0])), (q1, .inl (cI, 4, .inl (fun _ => 0))), (q2, .inl (cI, 4, .inl (fun _ => 0))), (q3, .inl (cI, 576, .inl (fun _ => 0))), (q4, .inl (cI, 400, .inl (fun _ => 0))), (q5, .inl (cI, 600, .inl (fun _ => 0))), (q6, .inl (cI, 16, .inl (fun _ => 0))), (q7, .inl (cI, 16, .inl (fun _ => 0))), (q8, .inl (cI, 16, .inl (fun _ => 0))), (q9, .inl (cI, 4, .inl (fun _ => 0))), (q10, .inl (cI, 4, .inl (fun _ => 0))), (q11, .inl (cI, 18, .inl (fun _ => 0))), (q12, .inl (cI, 9, .inl (fun _ => 0))), (q13, .inl (cI, 2, .inl (fun _ => 0))), (q14, .inl (cI, 2, .inl (fun _ => 0))), (q15, .inl (cZ, 4, .inl (fun _ => 0)))] := hD
  refine va_putF (D := D) (ci := 9) (v := .ref q15) (ty := .array .boolean) (C := "TileForgeModel") (T := T_Model) (N := 29) hx hb hts (cs_in in_Model) ty_Model tok_Model nm_Model hown hK hP hD hS 0 rfl rfl 14 (by decide) (hts _ (cs_m mw_433)) (fun _ h9 => h9) rfl hin rfl (by decide +kernel) rfl rfl (Nat.le_of_ble_eq_true rfl) d_Model_init_117 (fun H locs hP hD hS => ?_)
  have hP : va_P D vwCl [(g0, .inr (9, [.ref q1, .ref q2, .ref q3, .ref q4, .ref q5, .ref q6, .ref q7, .ref q8, .ref q9, .ref q10, .ref q11, .ref q12, .ref q13, .ref q14, .ref q15, .int 0, .int 0, .int 0, .int 0, .int 0, .int 0, .int 0, .int 0, .int 0, .int 0, .int 0, .int 0, .int 0, .int 0])), (q1, .inl (cI, 4, .inl (fun _ => 0))), (q2, .inl (cI, 4, .inl (fun _ => 0))), (q3, .inl (cI, 576, .inl (fun _ => 0))), (q4, .inl (cI, 400, .inl (fun _ => 0))), (q5, .inl (cI, 600, .inl (fun _ => 0))), (q6, .inl (cI, 16, .inl (fun _ => 0))), (q7, .inl (cI, 16, .inl (fun _ => 0))), (q8, .inl (cI, 16, .inl (fun _ => 0))), (q9, .inl (cI, 4, .inl (fun _ => 0))), (q10, .inl (cI, 4, .inl (fun _ => 0))), (q11, .inl (cI, 18, .inl (fun _ => 0))), (q12, .inl (cI, 9, .inl (fun _ => 0))), (q13, .inl (cI, 2, .inl (fun _ => 0))), (q14, .inl (cI, 2, .inl (fun _ => 0))), (q15, .inl (cZ, 4, .inl (fun _ => 0)))] H := hP
  have hD : va_D A [(g0, .inr (9, [.ref q1, .ref q2, .ref q3, .ref q4, .ref q5, .ref q6, .ref q7, .ref q8, .ref q9, .ref q10, .ref q11, .ref q12, .ref q13, .ref q14, .ref q15, .int 0, .int 0, .int 0, .int 0, .int 0, .int 0, .int 0, .int 0, .int 0, .int 0, .int 0, .int 0, .int 0, .int 0])), (q1, .inl (cI, 4, .inl (fun _ => 0))), (q2, .inl (cI, 4, .inl (fun _ => 0))), (q3, .inl (cI, 576, .inl (fun _ => 0))), (q4, .inl (cI, 400, .inl (fun _ => 0))), (q5, .inl (cI, 600, .inl (fun _ => 0))), (q6, .inl (cI, 16, .inl (fun _ => 0))), (q7, .inl (cI, 16, .inl (fun _ => 0))), (q8, .inl (cI, 16, .inl (fun _ => 0))), (q9, .inl (cI, 4, .inl (fun _ => 0))), (q10, .inl (cI, 4, .inl (fun _ => 0))), (q11, .inl (cI, 18, .inl (fun _ => 0))), (q12, .inl (cI, 9, .inl (fun _ => 0))), (q13, .inl (cI, 2, .inl (fun _ => 0))), (q14, .inl (cI, 2, .inl (fun _ => 0))), (q15, .inl (cZ, 4, .inl (fun _ => 0)))] := hD
  refine lv_aload_n hx hb d_Model_init_120 rfl (lv_at hl 0 rfl) ?_
  refine va_get (D := D) (ci := 9) (v := .ref q1) (C := "TileForgeModel") (T := T_Model) (N := 29) hx hb hts (cs_in in_Model) hown hK hP 0 rfl rfl 0 (by decide) (hts _ (cs_m mw_348)) (fun _ h9 => h9) rfl d_Model_init_121 ?_
  refine lv_iconst (v := 0) hx hb d_Model_init_124 (by decide) ?_
  refine lv_iconst (v := 4) hx hb d_Model_init_125 (by decide) ?_
  refine cs_iast (j := 0) hx hb hK hcI hP hD hS 1 rfl (rfl) (by decide) (by decide) d_Model_init_126 (fun H locs hP hD hS => ?_)
  have hP : va_P D vwCl [(g0, .inr (9, [.ref q1, .ref q2, .ref q3, .ref q4, .ref q5, .ref q6, .ref q7, .ref q8, .ref q9, .ref q10, .ref q11, .ref q12, .ref q13, .ref q14, .ref q15, .int 0, .int 0, .int 0, .int 0, .int 0, .int 0, .int 0, .int 0, .int 0, .int 0, .int 0, .int 0, .int 0, .int 0])), (q1, .inl (cI, 4, .inl (upd (fun _ => 0) 0 4))), (q2, .inl (cI, 4, .inl (fun _ => 0))), (q3, .inl (cI, 576, .inl (fun _ => 0))), (q4, .inl (cI, 400, .inl (fun _ => 0))), (q5, .inl (cI, 600, .inl (fun _ => 0))), (q6, .inl (cI, 16, .inl (fun _ => 0))), (q7, .inl (cI, 16, .inl (fun _ => 0))), (q8, .inl (cI, 16, .inl (fun _ => 0))), (q9, .inl (cI, 4, .inl (fun _ => 0))), (q10, .inl (cI, 4, .inl (fun _ => 0))), (q11, .inl (cI, 18, .inl (fun _ => 0))), (q12, .inl (cI, 9, .inl (fun _ => 0))), (q13, .inl (cI, 2, .inl (fun _ => 0))), (q14, .inl (cI, 2, .inl (fun _ => 0))), (q15, .inl (cZ, 4, .inl (fun _ => 0)))] H := hP
  have hD : va_D A [(g0, .inr (9, [.ref q1, .ref q2, .ref q3, .ref q4, .ref q5, .ref q6, .ref q7, .ref q8, .ref q9, .ref q10, .ref q11, .ref q12, .ref q13, .ref q14, .ref q15, .int 0, .int 0, .int 0, .int 0, .int 0, .int 0, .int 0, .int 0, .int 0, .int 0, .int 0, .int 0, .int 0, .int 0])), (q1, .inl (cI, 4, .inl (upd (fun _ => 0) 0 4))), (q2, .inl (cI, 4, .inl (fun _ => 0))), (q3, .inl (cI, 576, .inl (fun _ => 0))), (q4, .inl (cI, 400, .inl (fun _ => 0))), (q5, .inl (cI, 600, .inl (fun _ => 0))), (q6, .inl (cI, 16, .inl (fun _ => 0))), (q7, .inl (cI, 16, .inl (fun _ => 0))), (q8, .inl (cI, 16, .inl (fun _ => 0))), (q9, .inl (cI, 4, .inl (fun _ => 0))), (q10, .inl (cI, 4, .inl (fun _ => 0))), (q11, .inl (cI, 18, .inl (fun _ => 0))), (q12, .inl (cI, 9, .inl (fun _ => 0))), (q13, .inl (cI, 2, .inl (fun _ => 0))), (q14, .inl (cI, 2, .inl (fun _ => 0))), (q15, .inl (cZ, 4, .inl (fun _ => 0)))] := hD
  refine lv_aload_n hx hb d_Model_init_127 rfl (lv_at hl 0 rfl) ?_
  refine va_get (D := D) (ci := 9) (v := .ref q2) (C := "TileForgeModel") (T := T_Model) (N := 29) hx hb hts (cs_in in_Model) hown hK hP 0 rfl rfl 1 (by decide) (hts _ (cs_m mw_352)) (fun _ h9 => h9) rfl d_Model_init_128 ?_
  refine lv_iconst (v := 0) hx hb d_Model_init_131 (by decide) ?_
  refine lv_iconst (v := 4) hx hb d_Model_init_132 (by decide) ?_
  refine cs_iast (j := 0) hx hb hK hcI hP hD hS 2 rfl (rfl) (by decide) (by decide) d_Model_init_133 (fun H locs hP hD hS => ?_)
  have hP : va_P D vwCl [(g0, .inr (9, [.ref q1, .ref q2, .ref q3, .ref q4, .ref q5, .ref q6, .ref q7, .ref q8, .ref q9, .ref q10, .ref q11, .ref q12, .ref q13, .ref q14, .ref q15, .int 0, .int 0, .int 0, .int 0, .int 0, .int 0, .int 0, .int 0, .int 0, .int 0, .int 0, .int 0, .int 0, .int 0])), (q1, .inl (cI, 4, .inl (upd (fun _ => 0) 0 4))), (q2, .inl (cI, 4, .inl (upd (fun _ => 0) 0 4))), (q3, .inl (cI, 576, .inl (fun _ => 0))), (q4, .inl (cI, 400, .inl (fun _ => 0))), (q5, .inl (cI, 600, .inl (fun _ => 0))), (q6, .inl (cI, 16, .inl (fun _ => 0))), (q7, .inl (cI, 16, .inl (fun _ => 0))), (q8, .inl (cI, 16, .inl (fun _ => 0))), (q9, .inl (cI, 4, .inl (fun _ => 0))), (q10, .inl (cI, 4, .inl (fun _ => 0))), (q11, .inl (cI, 18, .inl (fun _ => 0))), (q12, .inl (cI, 9, .inl (fun _ => 0))), (q13, .inl (cI, 2, .inl (fun _ => 0))), (q14, .inl (cI, 2, .inl (fun _ => 0))), (q15, .inl (cZ, 4, .inl (fun _ => 0)))] H := hP
  have hD : va_D A [(g0, .inr (9, [.ref q1, .ref q2, .ref q3, .ref q4, .ref q5, .ref q6, .ref q7, .ref q8, .ref q9, .ref q10, .ref q11, .ref q12, .ref q13, .ref q14, .ref q15, .int 0, .int 0, .int 0, .int 0, .int 0, .int 0, .int 0, .int 0, .int 0, .int 0, .int 0, .int 0, .int 0, .int 0])), (q1, .inl (cI, 4, .inl (upd (fun _ => 0) 0 4))), (q2, .inl (cI, 4, .inl (upd (fun _ => 0) 0 4))), (q3, .inl (cI, 576, .inl (fun _ => 0))), (q4, .inl (cI, 400, .inl (fun _ => 0))), (q5, .inl (cI, 600, .inl (fun _ => 0))), (q6, .inl (cI, 16, .inl (fun _ => 0))), (q7, .inl (cI, 16, .inl (fun _ => 0))), (q8, .inl (cI, 16, .inl (fun _ => 0))), (q9, .inl (cI, 4, .inl (fun _ => 0))), (q10, .inl (cI, 4, .inl (fun _ => 0))), (q11, .inl (cI, 18, .inl (fun _ => 0))), (q12, .inl (cI, 9, .inl (fun _ => 0))), (q13, .inl (cI, 2, .inl (fun _ => 0))), (q14, .inl (cI, 2, .inl (fun _ => 0))), (q15, .inl (cZ, 4, .inl (fun _ => 0)))] := hD
  refine lv_aload_n hx hb d_Model_init_134 rfl (lv_at hl 0 rfl) ?_
  refine va_get (D := D) (ci := 9) (v := .ref q15) (C := "TileForgeModel") (T := T_Model) (N := 29) hx hb hts (cs_in in_Model) hown hK hP 0 rfl rfl 14 (by decide) (hts _ (cs_m mw_433)) (fun _ h9 => h9) rfl d_Model_init_135 ?_
  refine lv_iconst (v := 0) hx hb d_Model_init_138 (by decide) ?_
  refine lv_iconst (v := 1) hx hb d_Model_init_139 (by decide) ?_
  refine cs_zast (j := 0) hx hb hK hcZ hP hD hS 15 rfl (rfl) (by decide) (by decide) rfl d_Model_init_140 (fun H locs hP hD hS => ?_)
  have hP : va_P D vwCl [(g0, .inr (9, [.ref q1, .ref q2, .ref q3, .ref q4, .ref q5, .ref q6, .ref q7, .ref q8, .ref q9, .ref q10, .ref q11, .ref q12, .ref q13, .ref q14, .ref q15, .int 0, .int 0, .int 0, .int 0, .int 0, .int 0, .int 0, .int 0, .int 0, .int 0, .int 0, .int 0, .int 0, .int 0])), (q1, .inl (cI, 4, .inl (upd (fun _ => 0) 0 4))), (q2, .inl (cI, 4, .inl (upd (fun _ => 0) 0 4))), (q3, .inl (cI, 576, .inl (fun _ => 0))), (q4, .inl (cI, 400, .inl (fun _ => 0))), (q5, .inl (cI, 600, .inl (fun _ => 0))), (q6, .inl (cI, 16, .inl (fun _ => 0))), (q7, .inl (cI, 16, .inl (fun _ => 0))), (q8, .inl (cI, 16, .inl (fun _ => 0))), (q9, .inl (cI, 4, .inl (fun _ => 0))), (q10, .inl (cI, 4, .inl (fun _ => 0))), (q11, .inl (cI, 18, .inl (fun _ => 0))), (q12, .inl (cI, 9, .inl (fun _ => 0))), (q13, .inl (cI, 2, .inl (fun _ => 0))), (q14, .inl (cI, 2, .inl (fun _ => 0))), (q15, .inl (cZ, 4, .inl (upd (fun _ => 0) 0 1)))] H := hP
  have hD : va_D A [(g0, .inr (9, [.ref q1, .ref q2, .ref q3, .ref q4, .ref q5, .ref q6, .ref q7, .ref q8, .ref q9, .ref q10, .ref q11, .ref q12, .ref q13, .ref q14, .ref q15, .int 0, .int 0, .int 0, .int 0, .int 0, .int 0, .int 0, .int 0, .int 0, .int 0, .int 0, .int 0, .int 0, .int 0])), (q1, .inl (cI, 4, .inl (upd (fun _ => 0) 0 4))), (q2, .inl (cI, 4, .inl (upd (fun _ => 0) 0 4))), (q3, .inl (cI, 576, .inl (fun _ => 0))), (q4, .inl (cI, 400, .inl (fun _ => 0))), (q5, .inl (cI, 600, .inl (fun _ => 0))), (q6, .inl (cI, 16, .inl (fun _ => 0))), (q7, .inl (cI, 16, .inl (fun _ => 0))), (q8, .inl (cI, 16, .inl (fun _ => 0))), (q9, .inl (cI, 4, .inl (fun _ => 0))), (q10, .inl (cI, 4, .inl (fun _ => 0))), (q11, .inl (cI, 18, .inl (fun _ => 0))), (q12, .inl (cI, 9, .inl (fun _ => 0))), (q13, .inl (cI, 2, .inl (fun _ => 0))), (q14, .inl (cI, 2, .inl (fun _ => 0))), (q15, .inl (cZ, 4, .inl (upd (fun _ => 0) 0 1)))] := hD
  refine W.widen (k := 15) (n := 1675) (Nat.le_of_ble_eq_true rfl) (Nat.le_of_ble_eq_true rfl) ?_
  exact W.vret hx hb hr (fun t ht hW => ⟨⟨[(g0, .inr (9, [.ref q1, .ref q2, .ref q3, .ref q4, .ref q5, .ref q6, .ref q7, .ref q8, .ref q9, .ref q10, .ref q11, .ref q12, .ref q13, .ref q14, .ref q15, .int 0, .int 0, .int 0, .int 0, .int 0, .int 0, .int 0, .int 0, .int 0, .int 0, .int 0, .int 0, .int 0, .int 0])), (q1, .inl (cI, 4, .inl (upd (fun _ => 0) 0 4))), (q2, .inl (cI, 4, .inl (upd (fun _ => 0) 0 4))), (q3, .inl (cI, 576, .inl (fun _ => 0))), (q4, .inl (cI, 400, .inl (fun _ => 0))), (q5, .inl (cI, 600, .inl (fun _ => 0))), (q6, .inl (cI, 16, .inl (fun _ => 0))), (q7, .inl (cI, 16, .inl (fun _ => 0))), (q8, .inl (cI, 16, .inl (fun _ => 0))), (q9, .inl (cI, 4, .inl (fun _ => 0))), (q10, .inl (cI, 4, .inl (fun _ => 0))), (q11, .inl (cI, 18, .inl (fun _ => 0))), (q12, .inl (cI, 9, .inl (fun _ => 0))), (q13, .inl (cI, 2, .inl (fun _ => 0))), (q14, .inl (cI, 2, .inl (fun _ => 0))), (q15, .inl (cZ, 4, .inl (upd (fun _ => 0) 0 1)))], rfl, ⟨q1, q2, q3, q4, q5, q6, q7, q8, q9, q10, q11, q12, q13, q14, q15, (rfl)⟩, by rw [ht]; exact hP, va_K.moved hW.alike hK, hD⟩, hS.F ht⟩) hS.2.2 d_Model_init_141
