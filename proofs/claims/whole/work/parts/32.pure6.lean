/-! boolean arrays; fillings and copies as functions; what the reference's open calls ask for -/
section CSZ
variable {p : Program} {l : Launch} {e : Env} {R : Room} {s : State} {m : MethodId} {args : Array Value} {below : List Frame} {meth : Method} {c : Code} {H : Heap} {locs : List Loc} {cells slots : Nat} {Q : State → Prop}
variable {cc : ByteArray} {pc : Nat} {ls : Array Slot} {rest : List Value} {D : va_G} {cl : List vw_C} {A : Nat → Prop} {tys : List (ClassId × FieldType)} {ws : va_W} {H0 : Heap}
theorem cs_cZ {D : va_G} {cl : List vw_C} {tys : List (ClassId × FieldType)} {s : State} {cA cZ : ClassId} (hK : va_K D cl (tys ++ [(cA, .boolean)]) s) (ht : tys[3]? = some (cZ, .boolean)) : cA = cZ := by
  have h1 := (hK.2 3 (cZ, .boolean) (by rw [List.getElem?_append_left (List.getElem?_eq_some_iff.mp ht).1]; exact ht)).2
  have h2 := (hK.2 tys.length (cA, .boolean) (by simp)).2
  have h3 : s.vm.findClass ("[" ++ (FieldType.boolean).toString) = some cZ := h1
  have h4 : s.vm.findClass ("[" ++ (FieldType.boolean).toString) = some cA := h2
  exact Option.some.inj (h4.symm.trans h3)
theorem cs_zald (hexec : p.tables.exec = Jvm.exec) (hb : c.code = cc) (hK : va_K D cl tys s) {cA : ClassId} (ht : tys[3]? = some (cA, .boolean)) (hP : va_P D cl ws H) (q0 : Nat) {a n : Nat} {f : Nat → Int32} (ha : ws[q0]? = some (a, .inl (cA, n, .inl f))) {i : Int32} {j : Nat} (hi : i = nI j) (hj : j < n) (hn : n < 2 ^ 31) (hdg : decode cc pc = .ok (.baload, 1))
    (kk : W p l e R s m args below meth c H locs cells slots Q (F0 m (pc + 1) ls (.int (f j) :: rest))) : W p l e R s m args below meth c H locs cells slots Q (F0 m pc ls (.int i :: .ref a :: rest)) := by
  subst hi
  refine va_zald hexec hb hK hP q0 3 ha ht (vp_in_nI hj hn) hdg ?_
  rw [nI_clamp (Nat.lt_trans hj hn)]
  exact kk
theorem cs_zast (hexec : p.tables.exec = Jvm.exec) (hb : c.code = cc) (hK : va_K D cl tys s) {cA : ClassId} (ht : tys[3]? = some (cA, .boolean)) (hP : va_P D cl ws H) (hD : va_D A ws) (hS : va_S A H0 H locs) (q0 : Nat) {a n : Nat} {f : Nat → Int32} (ha : ws[q0]? = some (a, .inl (cA, n, .inl f))) {i x : Int32} {j : Nat} (hi : i = nI j) (hj : j < n) (hn : n < 2 ^ 31) (hx : vp_nar .boolean x = x) (hdg : decode cc pc = .ok (.bastore, 1))
    (kk : ∀ (H1 : Heap) (locs1 : List Loc), va_P D cl (ws.set q0 (a, .inl (cA, n, .inl (upd f j x)))) H1 → va_D A (ws.set q0 (a, .inl (cA, n, .inl (upd f j x)))) → va_S A H0 H1 locs1 → W p l e R s m args below meth c H1 locs1 cells slots Q (F0 m (pc + 1) ls rest)) : W p l e R s m args below meth c H locs cells slots Q (F0 m pc ls (.int x :: .int i :: .ref a :: rest)) := by
  subst hi
  refine va_zast hexec hb hK hP hD hS q0 3 ha ht (vp_in_nI hj hn) hdg ?_
  rw [nI_clamp (Nat.lt_trans hj hn), hx]
  exact kk
theorem cs_newz (hexec : p.tables.exec = Jvm.exec) (hb : c.code = cc) (harr : (Cond.arrayClass .boolean).before args s = true) (hK : va_K D cl tys s) {cA : ClassId} (ht : tys[3]? = some (cA, .boolean)) (hP : va_P D cl ws H) (hD : va_D A ws) (hS : va_S A H0 H locs) (hA : ∀ q, H0.size ≤ q → A q) {n : Int32} {N : Nat} (hn : ¬ n < 0) (hN : n.toNatClampNeg = N) (hbytes : N * componentBytes .boolean ≤ 536870912) (hcells : cells + 1 ≤ R.cells) (hslots : slots + N ≤ R.slots) (hdg : decode cc pc = .ok (.newarray .boolean, 2))
    (kk : ∀ (q : Nat) (H1 : Heap), va_P D cl (ws ++ [(q, .inl (cA, N, .inl (fun _ => 0)))]) H1 → va_D A (ws ++ [(q, .inl (cA, N, .inl (fun _ => 0)))]) → va_S A H0 H1 locs → W p l e R s m args below meth c H1 locs (cells + 1) (slots + N) Q (F0 m (pc + 2) ls (.ref q :: rest))) : W p l e R s m args below meth c H locs cells slots Q (F0 m pc ls (.int n :: rest)) := by
  refine va_newa (a0 := (N, .inl (fun _ => 0))) hexec hb (atype := .boolean) harr rfl hK hP hD hS hA (fun cA => rfl) hn hN hbytes hcells hslots hdg (fun q cB H1 hK1 hP1 hD1 hS1 => ?_)
  have e := cs_cZ hK1 ht
  subst e
  exact kk q H1 hP1 hD1 hS1
end CSZ
def cp2 (g f : Nat → Int32) (a b k : Nat) : Nat → Int32 := fun j => if a ≤ j ∧ j < a + k then g (b + (j - a)) else f j
theorem cp2_0 {g f : Nat → Int32} {a b : Nat} : cp2 g f a b 0 = f := by
  funext j
  exact if_neg (by omega)
theorem cp2_s {g f : Nat → Int32} {a b k : Nat} {v : Int32} (hv : v = g (b + k)) : upd (cp2 g f a b k) (a + k) v = cp2 g f a b (k + 1) := by
  funext j
  by_cases e : j = a + k
  · subst e
    rw [pk_us, cp2, if_pos (by omega), hv, show a + k - a = k by omega]
  · rw [pk_un e, cp2, cp2]
    by_cases h : a ≤ j ∧ j < a + k
    · rw [if_pos h, if_pos (by omega)]
    · rw [if_neg h, if_neg (by omega)]
theorem cp2_hi {g f : Nat → Int32} {a b k j : Nat} (h : a + k ≤ j) : cp2 g f a b k j = f j := if_neg (by omega)
def flN (f : Nat → Int32) (a : Nat) (v : Int32) (k : Nat) : Nat → Int32 := fun j => if a ≤ j ∧ j < a + k then v else f j
theorem flN_0 {f : Nat → Int32} {a : Nat} {v : Int32} : flN f a v 0 = f := by
  funext j
  exact if_neg (by omega)
theorem flN_s {f : Nat → Int32} {a k : Nat} {v : Int32} : upd (flN f a v k) (a + k) v = flN f a v (k + 1) := by
  funext j
  by_cases e : j = a + k
  · subst e
    rw [pk_us, flN, if_pos (by omega)]
  · rw [pk_un e, flN, flN]
    by_cases h : a ≤ j ∧ j < a + k
    · rw [if_pos h, if_pos (by omega)]
    · rw [if_neg h, if_neg (by omega)]
/-- a filling from x, y to the right and down: rows before jj are done, row jj up to column ii -/
def flF (f : Nat → Int32) (x y : Nat) (v g h : Int32) (W jj ii : Nat) : Nat → Int32 := fun j =>
  if j < 144 ∧ y ≤ j / 12 ∧ x ≤ j % 12 ∧ j % 12 < W ∧ (j / 12 < jj ∨ j / 12 = jj ∧ j % 12 < ii) then clip (v + g * (nI (j % 12) - nI x) + h * (nI (j / 12) - nI y)) else f j
theorem flF_0 {f : Nat → Int32} {x y W : Nat} {v g h : Int32} : flF f x y v g h W y x = f := by
  funext j
  exact if_neg (by omega)
theorem flF_s {f : Nat → Int32} {x y W jj ii : Nat} {v g h : Int32} (hx : x ≤ ii) (hi : ii < W) (hW : W ≤ 12) (hy : y ≤ jj) (hj : jj < 12) : upd (flF f x y v g h W jj ii) (jj * 12 + ii) (clip (v + g * (nI ii - nI x) + h * (nI jj - nI y))) = flF f x y v g h W jj (ii + 1) := by
  funext j
  by_cases e : j = jj * 12 + ii
  · subst e
    have h1 : (jj * 12 + ii) / 12 = jj := by omega
    have h2 : (jj * 12 + ii) % 12 = ii := by omega
    rw [pk_us, flF, h1, h2, if_pos (by omega)]
  · rw [pk_un e, flF, flF]
    by_cases h : j < 144 ∧ y ≤ j / 12 ∧ x ≤ j % 12 ∧ j % 12 < W ∧ (j / 12 < jj ∨ j / 12 = jj ∧ j % 12 < ii)
    · rw [if_pos h, if_pos (by omega)]
    · rw [if_neg h, if_neg (by omega)]
theorem flF_r {f : Nat → Int32} {x y W jj ii : Nat} {v g h : Int32} (hi : W ≤ ii) : flF f x y v g h W jj ii = flF f x y v g h W (jj + 1) x := by
  funext j
  rw [flF, flF]
  by_cases h : j < 144 ∧ y ≤ j / 12 ∧ x ≤ j % 12 ∧ j % 12 < W ∧ (j / 12 < jj ∨ j / 12 = jj ∧ j % 12 < ii)
  · rw [if_pos h, if_pos (by omega)]
  · rw [if_neg h, if_neg (by omega)]
theorem cs_in1 {w : Int32} {W x : Nat} (hw : w = nI W) (hx : x < W) (hW : W ≤ 12) : ¬ nI x < 0 ∧ ¬ w - 1 < nI x := by
  subst hw
  obtain ⟨W, rfl⟩ : ∃ k, W = k + 1 := ⟨W - 1, by omega⟩
  rw [nI_pred]
  exact ⟨nI_pos (by omega), fun h => absurd ((nI_ltI (a := W) (b := x) (by omega) (by omega)).mp h) (by omega)⟩
theorem cs_in2 {w wz : Int32} {W Z x y : Nat} (hw : w = nI W) (hx : x < W) (hW : W ≤ 12) (hz : wz = nI Z) (hy : y < Z) (hZ : Z ≤ 12) : (¬ nI x < 0 ∧ ¬ w - 1 < nI x) ∧ (¬ nI y < 0 ∧ ¬ wz - 1 < nI y) := ⟨cs_in1 hw hx hW, cs_in1 hz hy hZ⟩
theorem cs_144 (o k : Nat) : 144 * nI o + nI k = nI (144 * o + k) := by rw [show (144 : Int32) * nI o = nI (144 * o) from pk_mul 144 o, nI_add]
theorem cs_ch {o : Nat} (h : o ≤ 2) : ¬ nI o < 0 ∧ ¬ (2 : Int32) < nI o := ⟨nI_pos (by omega), fun q => absurd ((nI_ltI (a := 2) (b := o) (by decide) (by omega)).mp q) (by omega)⟩
theorem cs_inN {a k : Nat} (hk : k < a) (ha : a ≤ 1000) : ¬ nI k < 0 ∧ ¬ nI a - 1 < nI k := by
  obtain ⟨b, rfl⟩ : ∃ b, a = b + 1 := ⟨a - 1, by omega⟩
  rw [nI_pred]
  exact ⟨nI_pos (by omega), fun h => absurd ((nI_ltI (a := b) (b := k) (by omega) (by omega)).mp h) (by omega)⟩
theorem cs_inL {a k : Nat} (hk : k ≤ a) (ha : a ≤ 1000) : ¬ nI k < 0 ∧ ¬ nI a < nI k := ⟨nI_pos (by omega), fun h => absurd ((nI_ltI (a := a) (b := k) (by omega) (by omega)).mp h) (by omega)⟩
theorem cs_m1 {k : Nat} (hk : k < 2 ^ 31) : ¬ nI k < -1 := fun h => nI_pos hk (Int32.lt_trans h (by decide))
theorem cs_in0 {k : Int32} : ¬ (¬ k < 0 ∧ ¬ (0 : Int32) - 1 < k) := fun h => h.2 (Int32.lt_of_lt_of_le (by decide) (Int32.not_lt.mp h.1))
theorem cs_wh {cw ch : Nat} (hw : cw ≤ 3) (hh : ch ≤ 3) : nI (4 * cw) * nI (4 * ch) / 16 = nI (cw * ch) := by
  rcases (show cw = 0 ∨ cw = 1 ∨ cw = 2 ∨ cw = 3 by omega) with rfl | rfl | rfl | rfl <;> rcases (show ch = 0 ∨ ch = 1 ∨ ch = 2 ∨ ch = 3 by omega) with rfl | rfl | rfl | rfl <;> decide
theorem cs_ns1 {n : Nat} (h : n ≤ 400) : ¬ nI n - 1 < -1 := by
  cases n with
  | zero => decide
  | succ k => rw [nI_pred]; exact cs_m1 (by omega)
