/-! the reference's reading, block by block -/
theorem trB_le (f : Nat → Int32) (en : Nat) (xn : Int32) : ∀ (k i : Nat) (st : TB), st.1 ≤ en → (trB f en xn k i st).1 ≤ en
  | 0, _, _, h => h
  | k + 1, i, (q, t, su, mn, lv), h => by
    rw [trB]
    split
    · exact h
    · split
      · exact trB_le f en xn k (i + 1) _ (tuS_le f en (ctG i) su mn q t h)
      · exact h
def rgR (str : Nat → Int32) (en qb : Nat) (su mn fz : Nat → Int32) : TB := trB str en (tkS str en 5 (tkS str en 2 qb 0).2.1 (tkS str en 2 qb 0).2.2).1 16 0 ((tkS str en 5 (tkS str en 2 qb 0).2.1 (tkS str en 2 qb 0).2.2).2.1, (if (tkS str en 5 (tkS str en 2 qb 0).2.1 (tkS str en 2 qb 0).2.2).2.2 = 0 then (if (tkS str en 5 (tkS str en 2 qb 0).2.1 (tkS str en 2 qb 0).2.2).1 ≤ 16 then (tkS str en 5 (tkS str en 2 qb 0).2.1 (tkS str en 2 qb 0).2.2).2.2 else 2) else (tkS str en 5 (tkS str en 2 qb 0).2.1 (tkS str en 2 qb 0).2.2).2.2), su, mn, fz)
theorem rgR_le (str : Nat → Int32) (en qb : Nat) (su mn fz : Nat → Int32) (h : qb ≤ en) : (rgR str en qb su mn fz).1 ≤ en := trB_le str en _ 16 0 _ (tkS_le str en 5 _ _ (tkS_le str en 2 qb 0 h))
abbrev DS : Type := (Nat → Int32) × (Nat → Int32) × Nat × Int32 × (Nat → Int32) × (Nat → Int32) × Nat × Int32
def readR (str : Nat → Int32) (en x y : Nat) (qq : Int32) (st st' : DS) : Prop := match st with
  | (pix, mds, qb, _, su, mn, nbk, brd) => ∃ fz pix' mds' : Nat → Int32, (∀ j, j < 16 → fz j = 0) ∧
    (((rgR str en qb su mn fz).2.1 ≤ 0 ∧ mds' = upd mds (9 + nbk) (tkS str en 2 qb 0).1 ∧ (∃ (td f : Nat → Int32), (∀ j, j < 16 → f j = (rgR str en qb su mn fz).2.2.2.2 j <<< (qq &&& 31)) ∧ (∀ j, j < 16 → td j = clip (fo2 y x (abv (oP pix 3) x y) (lft (oP pix 3) x y) (crn (oP pix 3) x y) (tkS str en 2 qb 0).1 (j % 4) (j / 4) + ((trC (trR f 4) 4 j + 8) >>> (4 &&& 31)))) ∧ pix' = putO 3 pix x y td 16) ∧
        st' = (pix', mds', (rgR str en qb su mn fz).1, (rgR str en qb su mn fz).2.1, (rgR str en qb su mn fz).2.2.1, (rgR str en qb su mn fz).2.2.2.1, nbk + 1, nI (rgR str en qb su mn fz).1)) ∨
      (¬ (rgR str en qb su mn fz).2.1 ≤ 0 ∧ st' = (pix, mds, (rgR str en qb su mn fz).1, (rgR str en qb su mn fz).2.1, (rgR str en qb su mn fz).2.2.1, (rgR str en qb su mn fz).2.2.2.1, nbk, brd)))
def DRel (str : Nat → Int32) (en cw : Nat) (qq : Int32) (st0 : DS) : Nat → DS → Prop
  | 0, st => st = st0
  | b + 1, st' => ∃ st, DRel str en cw qq st0 b st ∧ st.2.2.2.1 = 0 ∧ readR str en (4 * (b % cw)) (4 * (b / cw)) qq st st'
theorem DR_step {str : Nat → Int32} {en cw cx cy b : Nat} {qq : Int32} {st0 st st' : DS} (h : DRel str en cw qq st0 b st) (h0 : st.2.2.2.1 = 0) (hb : b = cy * cw + cx) (hc : cx < cw) (hR : readR str en (4 * cx) (4 * cy) qq st st') : DRel str en cw qq st0 (b + 1) st' := by
  refine ⟨st, h, h0, ?_⟩
  have h1 : b % cw = cx := by rw [hb]; exact cs_bm hc
  have h2 : b / cw = cy := by rw [hb]; exact cs_bd hc
  rw [h1, h2]
  exact hR
theorem cs_13 {k : Nat} {x : Int32} (hx : x = nI k) (h : 1 ≤ k ∧ k ≤ 3) : ¬ x < 1 ∧ ¬ 3 < x := by
  subst hx
  exact ⟨fun q => absurd ((nI_ltI (a := k) (b := 1) (by omega) (by decide)).mp q) (by omega), fun q => absurd ((nI_ltI (a := 3) (b := k) (by decide) (by omega)).mp q) (by omega)⟩
theorem PX_flN {f : Nat → Int32} (h : PX f) {a k : Nat} {v : Int32} (hv : sm v) : PX (flN f a v k) := by
  intro j hj
  unfold flN
  split
  · exact hv
  · exact h j hj
