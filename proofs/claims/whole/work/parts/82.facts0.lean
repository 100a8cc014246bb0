/-! what the Statement gives of the start -/
theorem cs_arr {args : Array Value} {s : State} {ty : FieldType} (h : (Cond.arrayClass ty).before args s = true) : ∃ cA : ClassId, ArrOfT s cA ty ∧ s.vm.findClass ("[" ++ ty.toString) = some cA := by
  obtain ⟨cA, kA, comp, h1, h2, h3⟩ := Cond.arrayClass_spec h
  exact ⟨cA, fun n z => ⟨fun k h => (by cases h), kA, h2, comp, h3⟩, h1⟩
theorem nest_tbl : ∀ w ∈ nestW, w ∈ lw_tbl := by decide +kernel
theorem XW_0 {s : State} {b : Nat} (hts : ∀ w ∈ lw_tbl, w.before #[Value.ref b] s = true) (hgv : (Jvm.Cond.and given_1 narrow_1).before #[Value.ref b] s = true) : XW s := by
  have hs := flat_of_before _ hgv
  have h1 : (Cond.isRef (.static "java/lang/Throwable" "UNASSIGNED_STACK" "[Ljava/lang/StackTraceElement;")).before #[Value.ref b] s = true := hs _ (by decide +kernel)
  have h2 : (Cond.isRef (.static "java/lang/Throwable" "SUPPRESSED_SENTINEL" "Ljava/util/List;")).before #[Value.ref b] s = true := hs _ (by decide +kernel)
  have h9 : ∀ w ∈ HW.take 9, w.before #[Value.ref b] s = true := fun w hw => hts w (HW_tbl w hw)
  have hm : ∀ w ∈ HW, w ∈ HW.take 9 ∨ w = .isRef (.static "java/lang/Throwable" "UNASSIGNED_STACK" "[Ljava/lang/StackTraceElement;") ∨ w = .isRef (.static "java/lang/Throwable" "SUPPRESSED_SENTINEL" "Ljava/util/List;") := by decide +kernel
  intro w hw
  have hb : w.before #[Value.ref b] s = true := by
    rcases hm w hw with h | h | h
    · exact h9 w h
    · rw [h]; exact h1
    · rw [h]; exact h2
  rcases xw_on w hw with h3 | ⟨o, n, d, rfl⟩ | ⟨o, n, d, rfl⟩
  · exact va_any h3 hb
  · exact hb
  · exact hb
theorem NC_0 {s : State} {b : Nat} (hgv : (Jvm.Cond.and given_1 narrow_1).before #[Value.ref b] s = true) : NCok s := by
  have hs := flat_of_before _ hgv
  intro q hq
  simp only [NCP, List.mem_cons, List.not_mem_nil, or_false] at hq
  rcases hq with rfl | rfl | rfl | rfl | rfl
  · exact va_Nc.of (hs (Cond.not (.castable "java/lang/IndexOutOfBoundsException" "java/lang/IllegalArgumentException")) (by decide +kernel))
  · exact va_Nc.of (hs (Cond.not (.castable "java/lang/IllegalStateException" "java/lang/IllegalArgumentException")) (by decide +kernel))
  · exact va_Nc.of (hs (Cond.not (.castable "java/lang/IndexOutOfBoundsException" "java/lang/IllegalStateException")) (by decide +kernel))
  · exact va_Nc.of (hs (Cond.not (.castable "java/lang/UnsupportedOperationException" "java/lang/IllegalArgumentException")) (by decide +kernel))
  · exact va_Nc.of (hs (Cond.not (.castable "java/lang/UnsupportedOperationException" "java/lang/IllegalStateException")) (by decide +kernel))
section CSN
variable {p : Program} {l : Launch} {e : Env} {R : Room} {s : State} {m : MethodId} {args : Array Value} {below : List Frame} {meth : Method} {c : Code} {H : Heap} {locs : List Loc} {cells slots : Nat} {Q : State → Prop}
variable {cc : ByteArray} {pc : Nat} {ls : Array Slot} {rest st0 : List Value} {D : va_G} {cl : List vw_C} {A : Nat → Prop} {tys : List (ClassId × FieldType)} {ws wc wr : va_W} {H0 : Heap}
theorem cs_cAl {s : State} {cA cI : ClassId} (hK : va_K D cl (tys ++ [(cA, .long)]) s) (ht : tys[1]? = some (cI, .long)) : cA = cI := by
  have h1 := (hK.2 1 (cI, .long) (by rw [List.getElem?_append_left (List.getElem?_eq_some_iff.mp ht).1]; exact ht)).2
  have h2 := (hK.2 tys.length (cA, .long) (by simp)).2
  have h3 : s.vm.findClass ("[" ++ (FieldType.long).toString) = some cI := h1
  have h4 : s.vm.findClass ("[" ++ (FieldType.long).toString) = some cA := h2
  exact Option.some.inj (h4.symm.trans h3)
theorem cs_newl (hexec : p.tables.exec = Jvm.exec) (hb : c.code = cc) (harr : (Cond.arrayClass .long).before args s = true) (hK : va_K D cl tys s) {cA : ClassId} (ht : tys[1]? = some (cA, .long)) (hP : va_P D cl ws H) (hD : va_D A ws) (hS : va_S A H0 H locs) (hA : ∀ q, H0.size ≤ q → A q) (hcells : cells + 1 ≤ R.cells) (hslots : slots + 1 ≤ R.slots) (hdg : decode cc pc = .ok (.newarray .long, 2))
    (kk : ∀ (q : Nat) (H1 : Heap), va_P D cl (ws ++ [(q, .inl (cA, 1, .inr (.inl (fun _ => 0))))]) H1 → va_D A (ws ++ [(q, .inl (cA, 1, .inr (.inl (fun _ => 0))))]) → va_S A H0 H1 locs → W p l e R s m args below meth c H1 locs (cells + 1) (slots + 1) Q (F0 m (pc + 2) ls (.ref q :: rest))) : W p l e R s m args below meth c H locs cells slots Q (F0 m pc ls (.int 1 :: rest)) := by
  refine va_newa (a0 := (1, .inr (.inl (fun _ => 0)))) hexec hb (atype := .long) harr rfl hK hP hD hS hA (fun cA => rfl) (by decide) rfl (by decide) hcells hslots hdg (fun q cB H1 hK1 hP1 hD1 hS1 => ?_)
  have e := cs_cAl hK1 ht
  subst e
  exact kk q H1 hP1 hD1 hS1
theorem cs_cAd {s : State} {cA cI : ClassId} (hK : va_K D cl (tys ++ [(cA, .double)]) s) (ht : tys[2]? = some (cI, .double)) : cA = cI := by
  have h1 := (hK.2 2 (cI, .double) (by rw [List.getElem?_append_left (List.getElem?_eq_some_iff.mp ht).1]; exact ht)).2
  have h2 := (hK.2 tys.length (cA, .double) (by simp)).2
  have h3 : s.vm.findClass ("[" ++ (FieldType.double).toString) = some cI := h1
  have h4 : s.vm.findClass ("[" ++ (FieldType.double).toString) = some cA := h2
  exact Option.some.inj (h4.symm.trans h3)
theorem cs_newd (hexec : p.tables.exec = Jvm.exec) (hb : c.code = cc) (harr : (Cond.arrayClass .double).before args s = true) (hK : va_K D cl tys s) {cA : ClassId} (ht : tys[2]? = some (cA, .double)) (hP : va_P D cl ws H) (hD : va_D A ws) (hS : va_S A H0 H locs) (hA : ∀ q, H0.size ≤ q → A q) (hcells : cells + 1 ≤ R.cells) (hslots : slots + 1 ≤ R.slots) (hdg : decode cc pc = .ok (.newarray .double, 2))
    (kk : ∀ (q : Nat) (H1 : Heap), va_P D cl (ws ++ [(q, .inl (cA, 1, .inr (.inr (.inr (.inl (fun _ => 0))))))]) H1 → va_D A (ws ++ [(q, .inl (cA, 1, .inr (.inr (.inr (.inl (fun _ => 0))))))]) → va_S A H0 H1 locs → W p l e R s m args below meth c H1 locs (cells + 1) (slots + 1) Q (F0 m (pc + 2) ls (.ref q :: rest))) : W p l e R s m args below meth c H locs cells slots Q (F0 m pc ls (.int 1 :: rest)) := by
  refine va_newa (a0 := (1, .inr (.inr (.inr (.inl (fun _ => 0)))))) hexec hb (atype := .double) harr rfl hK hP hD hS hA (fun cA => rfl) (by decide) rfl (by decide) hcells hslots hdg (fun q cB H1 hK1 hP1 hD1 hS1 => ?_)
  have e := cs_cAd hK1 ht
  subst e
  exact kk q H1 hP1 hD1 hS1
end CSN
