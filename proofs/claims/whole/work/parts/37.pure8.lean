/-! the reference's coding, block by block; its levels are the class's levels; its numbers stay small -/
def PX (f : Nat → Int32) : Prop := ∀ j, j < 576 → sm (f j)
theorem PX_oP {f : Nat → Int32} (h : PX f) {o : Nat} (ho : o < 4) : PR (oP f o) := fun j hj => h (144 * o + j) (by omega)
theorem dfC_eq (pix : Nat → Int32) (x y : Nat) (way : Int32) (k : Nat) : dfC pix x y way k = oP pix 0 ((y + k / 4) * 12 + (x + k % 4)) - cbF (oP pix 3) x y way k := by
  unfold dfC dfG cbF fo2 foreB oP
  rfl
theorem neg0 (c : Int32) : 0 - c = -c := Int32.zero_sub c
theorem lvG_eq {q c : Int32} (hq : coarP q) (hc : bd 4080 c) : lvG q c = lvQ q c := by
  obtain ⟨k, hk, rfl⟩ := coar_nI hq
  obtain ⟨n, hn, e, -, -, -⟩ := absN (B := 4080) hc (by decide)
  have hp : 2 ^ k ≤ 2 ^ 5 := Nat.pow_le_pow_right (by decide) hk
  have hp0 : 0 < 2 ^ k := Nat.two_pow_pos k
  have e3 : (if 0 ≤ c then c else -c) = nI n := by rw [← e, neg0]
  have h1 : nI (2 ^ k) / 2 = nI (2 ^ k / 2) := pk_div (a := 2 ^ k) (d := 2) (by omega) (by decide) (by decide)
  have h2 : lG (nI k) c = nI ((n + 2 ^ k / 2) / 2 ^ k) := by
    unfold lG
    rw [e3, shl1 k hk, h1, nI_add]
    exact pk_div (a := n + 2 ^ k / 2) (d := 2 ^ k) (by omega) (by omega) (by omega)
  have h3 : ((if 0 ≤ c then c else 0 - c) + (1 <<< (nI k &&& 31)) / 2) >>> (nI k &&& 31) = nI ((n + 2 ^ k / 2) / 2 ^ k) := by
    rw [e, shl1 k hk, h1, nI_add, cs_shr (by omega) (by omega)]
  unfold lvG lvQ
  rw [h2, h3]
theorem dfC_bd {pix : Nat → Int32} (h : PX pix) {x y : Nat} (hx : x + 4 ≤ 12) (hy : y + 4 ≤ 12) (way : Int32) : ∀ j, j < 16 → bd 255 (dfC pix x y way j) := by
  intro j hj
  rw [dfC_eq]
  exact sm_bd (PX_oP h (o := 0) (by decide) _ (by omega)) (sm_cbF (PX_oP h (o := 3) (by decide)) hx hy hj)
theorem wkG_bd {pix : Nat → Int32} (h : PX pix) {x y : Nat} (hx : x + 4 ≤ 12) (hy : y + 4 ≤ 12) {way : Int32} {f : Nat → Int32} (hf : ∀ j, j < 16 → f j = dfC pix x y way j) : ∀ j, j < 16 → bd 4080 (trC (trR f 4) 4 j) :=
  trT_bd (fun j hj => by rw [hf j hj]; exact dfC_bd h hx hy way j hj)
theorem levG_ok {pix : Nat → Int32} (h : PX pix) {x y : Nat} (hx : x + 4 ≤ 12) (hy : y + 4 ≤ 12) {q way : Int32} (hq : coarP q) : ∀ j, j < 16 → ∀ c, (∃ f : Nat → Int32, (∀ j, j < 16 → f j = dfC pix x y way j) ∧ c = lvG q (trC (trR f 4) 4 j)) → uJ c = nI (uN c) ∧ uN c ≤ 8190 := by
  intro j hj c hc
  obtain ⟨f, hf, rfl⟩ := hc
  have hb := wkG_bd h hx hy hf j hj
  rw [lvG_eq hq hb]
  exact uJ_ok (lvQ_bd hq hb)
theorem PX_putO {pix : Nat → Int32} (h : PX pix) {o x y : Nat} {v : Nat → Int32} : ∀ k, k ≤ 16 → (∀ j, j < k → sm (v j)) → PX (putO o pix x y v k)
  | 0, _, _ => h
  | k + 1, hk, hv => by
    intro j hj
    rw [putO]
    by_cases e : j = 144 * o + ((y + k / 4) * 12 + (x + k % 4))
    · rw [e, pk_us]; exact hv k (by omega)
    · rw [pk_un e]; exact PX_putO h k (by omega) (fun i hi => hv i (by omega)) j hj
theorem PX_cp2 {f : Nat → Int32} (h : PX f) {a b k : Nat} (hb : b + k ≤ 576) : PX (cp2 f f a b k) := by
  intro j hj
  unfold cp2
  split
  · exact h _ (by omega)
  · exact h j hj
abbrev ES : Type := (Nat → Int32) × (Nat → Int32) × (Nat → Int32) × Nat × (Nat → Int32) × (Nat → Int32) × Int32 × Int32
def codeR (x y ix : Nat) (q : Int32) (st st' : ES) : Prop := match st with
  | (pix, nmd, lad, nb, su, mn, ile, igr) => ∃ wk lv td : Nat → Int32, (∃ f : Nat → Int32, (∀ j, j < 16 → f j = dfC pix x y (nI (cgB pix x y)) j) ∧ wk = trC (trR f 4) 4) ∧ (∀ j, j < 16 → lv j = lvG q (wk j)) ∧
    (∃ f : Nat → Int32, (∀ j, j < 16 → f j = lv j <<< (q &&& 31)) ∧ ∀ j, j < 16 → td j = clip (fo2 y x (abv (oP pix 3) x y) (lft (oP pix 3) x y) (crn (oP pix 3) x y) (nI (cgB pix x y)) (j % 4) (j / 4) + ((trC (trR f 4) 4 j + 8) >>> (4 &&& 31)))) ∧
    st' = (putO 3 pix x y td 16, upd nmd ix (nI (cgB pix x y)),
      (plF lv (stG q wk ile igr 16).1 0 (pwF (nI (stG q wk ile igr 16).1) 5 (pwF (nI (cgB pix x y)) 2 lad nb) (nb + 2), nb + 2 + 5, su, mn)).1,
      (plF lv (stG q wk ile igr 16).1 0 (pwF (nI (stG q wk ile igr 16).1) 5 (pwF (nI (cgB pix x y)) 2 lad nb) (nb + 2), nb + 2 + 5, su, mn)).2.1,
      (plF lv (stG q wk ile igr 16).1 0 (pwF (nI (stG q wk ile igr 16).1) 5 (pwF (nI (cgB pix x y)) 2 lad nb) (nb + 2), nb + 2 + 5, su, mn)).2.2.1,
      (plF lv (stG q wk ile igr 16).1 0 (pwF (nI (stG q wk ile igr 16).1) 5 (pwF (nI (cgB pix x y)) 2 lad nb) (nb + 2), nb + 2 + 5, su, mn)).2.2.2,
      (stG q wk ile igr 16).2.1, (stG q wk ile igr 16).2.2)
def ERel (cw : Nat) (q : Int32) (st0 : ES) : Nat → ES → Prop
  | 0, st => st = st0
  | b + 1, st' => ∃ st, ERel cw q st0 b st ∧ codeR (4 * (b % cw)) (4 * (b / cw)) b q st st'
theorem ER_step {cw cx cy b : Nat} {q : Int32} {st0 st st' : ES} (h : ERel cw q st0 b st) (hb : b = cy * cw + cx) (hc : cx < cw) (hR : codeR (4 * cx) (4 * cy) b q st st') : ERel cw q st0 (b + 1) st' := by
  refine ⟨st, h, ?_⟩
  have h1 : b % cw = cx := by rw [hb]; exact cs_bm hc
  have h2 : b / cw = cy := by rw [hb]; exact cs_bd hc
  rw [h1, h2]
  exact hR
theorem plF_423 (lv : Nat → Int32) (q : Int32) (wk : Nat → Int32) (l0 g0 : Int32) (f : Nat → Int32) (n : Nat) (su mn : Nat → Int32) : (plF lv (stG q wk l0 g0 16).1 0 (f, n + 2 + 5, su, mn)).2.1 ≤ n + 423 := by
  have h1 := plF_le lv (stG q wk l0 g0 16).1 0 (f, n + 2 + 5, su, mn)
  have h2 := stG_le q wk l0 g0 16
  have h3 : ((f, n + 2 + 5, su, mn) : PS).2.1 = n + 2 + 5 := rfl
  omega
theorem cs_need7 {n : Nat} (h : n < 1073741824) : (nI n + 7) / 8 = nI ((n + 7) / 8) := by
  rw [show nI n + 7 = nI (n + 7) from nI_add n 7]
  exact pk_div (a := n + 7) (d := 8) (by omega) (by decide) (by decide)
