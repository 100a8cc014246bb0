/-! what the class's pieces are, as functions (values are Int32, places are Nat), and small rows that the walks ask for -/
def clip (x : Int32) : Int32 := if 0 ≤ x then (if x ≤ 255 then x else 255) else 0
def absJ (x : Int32) : Int32 := if 0 ≤ x then x else 0 - x
def b2i (n : Nat) : Int32 := if n = 0 then 0 else 1
abbrev hasP (w h x y : Int32) : Prop := ¬ x < 0 ∧ ¬ w ≤ x ∧ ¬ 12 ≤ x ∧ ¬ y < 0 ∧ ¬ h ≤ y ∧ ¬ 12 ≤ y
abbrev sideP (x : Int32) : Prop := x = 4 ∨ x = 8 ∨ x = 12
abbrev coarP (x : Int32) : Prop := ¬ x < 0 ∧ ¬ 5 < x
/-- a count: the low bits, and what it becomes -/
def lowF (n s : Int32) : Nat → Nat → Nat
  | 0, k => k
  | f + 1, k => if s ≤ n <<< (nI k &&& 31) then k else lowF n s f (k + 1)
def lowK (n s : Int32) : Nat := lowF n s 10 0
def tlN (n : Int32) : Int32 := if n + 1 = 16 then (n + 1) / 2 else n + 1
def tlS (s n u : Int32) : Int32 := if n + 1 = 16 then (s + u) / 2 else s + u
/-- a bit behind n others; the lowest i bits of v, the highest first -/
def wr1 (f : Nat → Int32) (n : Nat) (b : Int32) : Nat → Int32 := if n / 8 < 400 then upd f (n / 8) (f (n / 8) ||| (b <<< ((7 - nI (n % 8)) &&& 31))) else f
def wrF (v : Int32) : Nat → (Nat → Int32) → Nat → (Nat → Int32)
  | 0, f, _ => f
  | i + 1, f, n => wrF v i (wr1 f n ((v >>> (nI i &&& 31)) &&& 1)) (n + 1)
/-- a bit read at place q of a row of L bytes, or -1; many; how many ones -/
def bitAt (f : Nat → Int32) (q : Nat) : Int32 := (f (q / 8) >>> ((7 - nI (q % 8)) &&& 31)) &&& 1
def rdR (f : Nat → Int32) (L q : Nat) : Int32 := if q / 8 < L then bitAt f q else -1
def rdQ (L q : Nat) : Nat := if q / 8 < L then q + 1 else q
def rdB (f : Nat → Int32) (L : Nat) : Nat → Nat → Int32 → Int32 × Nat
  | 0, q, x => (x, q)
  | k + 1, q, x => if q / 8 < L then rdB f L k (rdQ L q) (x * 2 + rdR f L q) else (-1, q)
def rdO (f : Nat → Int32) (L : Nat) : Nat → Nat → Nat → Int32 × Nat
  | 0, o, q => (nI o, q)
  | k + 1, o, q => if q / 8 < L then (if rdR f L q = 0 then (nI o, rdQ L q) else rdO f L k (o + 1) (rdQ L q)) else (-1, q)
/-- a level's number written, read; the level of a number -/
def lcK (ix : Nat) (s n s2 n2 : Int32) : Nat := if ix = 0 then lowK n s else lowK n2 s2
def wrU (u k : Nat) (f : Nat → Int32) (n : Nat) : (Nat → Int32) × Nat :=
  if u / 2 ^ k < 12 then (wrF (nI u) k (wrF ((2 <<< (nI (u / 2 ^ k) &&& 31)) - 2) (u / 2 ^ k + 1) f n) (n + (u / 2 ^ k + 1)), n + (u / 2 ^ k + 1) + k)
  else (wrF (nI u) 14 (wrF 4095 12 f n) (n + 12), n + 12 + 14)
def rdU (f : Nat → Int32) (L ix : Nat) (s n s2 n2 : Int32) (q : Nat) : Int32 × Nat × Int32 × Int32 × Int32 × Int32 :=
  if (rdO f L 12 0 q).1 = -1 then (-1, (rdO f L 12 0 q).2, s, n, s2, n2)
  else if (rdB f L (if (rdO f L 12 0 q).1 = 12 then 14 else lcK ix s n s2 n2) (rdO f L 12 0 q).2 0).1 = -1 then (-1, (rdB f L (if (rdO f L 12 0 q).1 = 12 then 14 else lcK ix s n s2 n2) (rdO f L 12 0 q).2 0).2, s, n, s2, n2)
  else (if (rdO f L 12 0 q).1 = 12 then (rdB f L 14 (rdO f L 12 0 q).2 0).1 else ((rdO f L 12 0 q).1 <<< (nI (lcK ix s n s2 n2) &&& 31)) + (rdB f L (lcK ix s n s2 n2) (rdO f L 12 0 q).2 0).1,
    (rdB f L (if (rdO f L 12 0 q).1 = 12 then 14 else lcK ix s n s2 n2) (rdO f L 12 0 q).2 0).2,
    if ix = 0 then tlS s n (if (rdO f L 12 0 q).1 = 12 then (rdB f L 14 (rdO f L 12 0 q).2 0).1 else ((rdO f L 12 0 q).1 <<< (nI (lcK ix s n s2 n2) &&& 31)) + (rdB f L (lcK ix s n s2 n2) (rdO f L 12 0 q).2 0).1) else s,
    if ix = 0 then tlN n else n,
    if ix = 0 then s2 else tlS s2 n2 (if (rdO f L 12 0 q).1 = 12 then (rdB f L 14 (rdO f L 12 0 q).2 0).1 else ((rdO f L 12 0 q).1 <<< (nI (lcK ix s n s2 n2) &&& 31)) + (rdB f L (lcK ix s n s2 n2) (rdO f L 12 0 q).2 0).1),
    if ix = 0 then n2 else tlN n2)
def lvOf (u : Int32) : Int32 := if u - u / 2 * 2 = 1 then (u + 1) / 2 else -(u / 2)
/-- foretelling: above, left, corner of the block at x, y; the mean; each way; how far off; the best way -/
def abv (px : Nat → Int32) (x y i : Nat) : Int32 := if y = 0 then 127 else px ((y - 1) * 12 + (x + i))
def lft (px : Nat → Int32) (x y i : Nat) : Int32 := if x = 0 then 129 else px ((y + i) * 12 + (x - 1))
def crn (px : Nat → Int32) (x y : Nat) : Int32 := if y = 0 then 127 else if x = 0 then 129 else px ((y - 1) * 12 + (x - 1))
def meanB (vr vc : Int32) (ab lf : Nat → Int32) : Int32 :=
  if vr = 0 then (if vc = 0 then 128 else (lf 0 + lf 1 + lf 2 + lf 3 + 2) / 4)
  else if vc = 0 then (ab 0 + ab 1 + ab 2 + ab 3 + 2) / 4
  else (ab 0 + ab 1 + ab 2 + ab 3 + (lf 0 + lf 1 + lf 2 + lf 3) + 4) / 8
def foreB (vr vc : Int32) (ab lf : Nat → Int32) (cr way : Int32) (i : Nat) : Int32 :=
  if way = 0 then meanB vr vc ab lf else if way = 1 then ab (i % 4) else if way = 2 then lf (i / 4) else clip (lf (i / 4) + ab (i % 4) - cr)
def missF (px : Nat → Int32) (x y : Nat) (fo : Nat → Int32) : Nat → Int32
  | 0 => 0
  | k + 1 => missF px x y fo k + (if 0 ≤ px ((y + k / 4) * 12 + (x + k % 4)) - fo k then px ((y + k / 4) * 12 + (x + k % 4)) - fo k else 0 - (px ((y + k / 4) * 12 + (x + k % 4)) - fo k))
def bestF (px : Nat → Int32) (x y : Nat) (vr vc : Int32) (ab lf : Nat → Int32) (cr : Int32) : Nat → Nat × Int32
  | 0 => (0, 4081)
  | k + 1 => if (bestF px x y vr vc ab lf cr k).2 ≤ missF px x y (foreB vr vc ab lf cr (nI k)) 16 then bestF px x y vr vc ab lf cr k else (k, missF px x y (foreB vr vc ab lf cr (nI k)) 16)
/-- the transform: a line, the rows, the columns; a level; how many up to the last; the pixels of a block put -/
def trL (f : Nat → Int32) (a b c d : Nat) : Nat → Int32 :=
  upd (upd (upd (upd f a (f a + f b + f c + f d)) b (f a + f b - f c - f d)) c (f a - f b - f c + f d)) d (f a - f b + f c - f d)
def trR (f : Nat → Int32) : Nat → (Nat → Int32)
  | 0 => f
  | k + 1 => trL (trR f k) (k * 4) (k * 4 + 1) (k * 4 + 2) (k * 4 + 3)
def trC (f : Nat → Int32) : Nat → (Nat → Int32)
  | 0 => f
  | k + 1 => trL (trC f k) k (k + 4) (k + 8) (k + 12)
def lvQ (q c : Int32) : Int32 := if 0 ≤ c then ((if 0 ≤ c then c else 0 - c) + (1 <<< (q &&& 31)) / 2) >>> (q &&& 31) else -(((if 0 ≤ c then c else 0 - c) + (1 <<< (q &&& 31)) / 2) >>> (q &&& 31))
def upTo (lv : Nat → Int32) : Nat → Nat
  | 0 => 0
  | k + 1 => if lv k = 0 then upTo lv k else k + 1
def putF (px : Nat → Int32) (x y : Nat) (v : Nat → Int32) : Nat → (Nat → Int32)
  | 0 => px
  | k + 1 => upd (putF px x y v k) ((y + k / 4) * 12 + (x + k % 4)) (v k)
theorem cs_b0 {c : Prop} [Decidable c] (h : (if c then (1 : Int32) else 0) = 0) : ¬ c := fun hc => by
  rw [if_pos hc] at h
  exact absurd h (by decide)
theorem cs_b1 {c : Prop} [Decidable c] (h : ¬ (if c then (1 : Int32) else 0) = 0) : c := Decidable.byContradiction fun hc => h (if_neg hc)
theorem cs_fill {f : Nat → Int32} {k : Nat} {v : Int32} (h : ∀ j, j < k → f j = v) : ∀ j, j < k + 1 → upd f k v j = v := by
  intro j hj
  by_cases e : j = k
  · subst e; exact pk_us
  · rw [pk_un e]; exact h j (by omega)
theorem cs_ext {f g : Nat → Int32} {k : Nat} {v : Int32} (h : ∀ j, j < k → f j = g j) (hv : v = g k) : ∀ j, j < k + 1 → upd f k v j = g j := by
  intro j hj
  by_cases e : j = k
  · subst e; rw [pk_us]; exact hv
  · rw [pk_un e]; exact h j (by omega)
theorem hasP_in {w h : Int32} {x y : Nat} (hx : x < 12) (hy : y < 12) (hw : nI x < w) (hh : nI y < h) : hasP w h (nI x) (nI y) :=
  ⟨nI_pos (by omega), Int32.not_le.mpr hw, nI_ge (b := 12) hx (by decide), nI_pos (by omega), Int32.not_le.mpr hh, nI_ge (b := 12) hy (by decide)⟩
theorem cs_yx (x y : Nat) : nI y * 12 + nI x = nI (y * 12 + x) := by
  rw [show (12 : Int32) = nI 12 from rfl, pk_mul, nI_add]
theorem cs_nz {x : Int32} (h : x = 0 ∨ x = 1) : narrow .boolean (.int x) = .int x := by
  rcases h with rfl | rfl <;> rfl
theorem cs_fz {x : Int32} (h : x = 0 ∨ x = 1) : fits .boolean (.int x) = true := by
  rcases h with rfl | rfl <;> rfl
theorem cs_cpy {f g : Nat → Int32} {n j : Nat} (hj : j < n) : va_cpy f g 0 0 n j = f j := sb_cpy0 hj
theorem cs_dec0 {i : Nat} (h : nI i - 1 < 0) (hi : i < 2 ^ 31) : i = 0 := by
  cases i with
  | zero => rfl
  | succ j => rw [nI_pred] at h; exact absurd h (nI_pos (by omega))
theorem cs_dec1 {i : Nat} (h : ¬ nI i - 1 < 0) : i ≠ 0 := fun e => h (by subst e; decide)
theorem cs_dec (j : Nat) : nI (j + 1) - 1 + Int32.ofInt (-1) = nI j - 1 := by
  rw [nI_pred, Int32.sub_eq_add_neg]
  rfl
theorem cs_need {n : Nat} (h : n < 1073741824) : (nI n + 8 - 1) / 8 = nI ((n + 7) / 8) := by
  rw [show nI n + 8 = nI (n + 7 + 1) from nI_add n 8, nI_pred]
  exact pk_div (a := n + 7) (d := 8) (by omega) (by decide) (by decide)
theorem cs_min {a b : Int32} (h : ¬ a < b) : (if a < b then a else b) = b := if_neg h
theorem cs_nz0 {i : Nat} (h : nI i = 0) (hi : i < 2 ^ 31) : i = 0 := (nI_eq (a := i) (b := 0) hi (by decide)).mp h
theorem lowF_le (n s : Int32) : ∀ (f k : Nat), lowF n s f k ≤ k + f
  | 0, k => Nat.le_refl k
  | f + 1, k => by
    rw [lowF]
    split
    · omega
    · have := lowF_le n s f (k + 1); omega
theorem lowK_le (n s : Int32) : lowK n s ≤ 10 := by
  have := lowF_le n s 10 0
  unfold lowK
  omega
theorem cs_shk : ∀ k, k < 32 → ((nI k &&& 31).toBitVec.smod 32).toNat = k := by decide
theorem cs_shr {n k : Nat} (hk : k ≤ 10) (hn : n < 2 ^ 31) : nI n >>> (nI k &&& 31) = nI (n / 2 ^ k) := pk_shrN hn _ k (cs_shk k (by omega))
theorem cs_le0 {n : Nat} (h : nI n ≤ 0) (hn : n < 2 ^ 31) : n = 0 := by
  have := (nI_leI (a := n) (b := 0) hn (by decide)).mp h
  omega
theorem cs_gt0 {n : Nat} (h : ¬ nI n ≤ 0) : 0 < n := by
  rcases Nat.eq_zero_or_pos n with e | e
  · subst e; exact absurd (by decide) h
  · exact e
theorem cs_pred {n : Nat} (h : 0 < n) : nI n - 1 = nI (n - 1) := by
  obtain ⟨k, rfl⟩ : ∃ k, n = k + 1 := ⟨n - 1, by omega⟩
  exact nI_pred k
theorem cs_addr (x k : Nat) (hk : k < 2 ^ 31) : nI x + (nI k - nI k / 4 * 4) = nI (x + k % 4) := by
  rw [show nI k - nI k / 4 * 4 = nI (k % 4) from pk_rem (a := k) (d := 4) hk (by decide) (by decide), nI_add]
theorem cs_addq (y k : Nat) (hk : k < 2 ^ 31) : nI y + nI k / 4 = nI (y + k / 4) := by
  rw [show nI k / 4 = nI (k / 4) from pk_div (a := k) (d := 4) hk (by decide) (by decide), nI_add]
theorem and1_ne (x : Int32) : ¬ x &&& 1 = -1 := by
  intro h
  have h1 := pk_and x (m := 1) 1 rfl
  rw [h] at h1
  have h2 : x.toBitVec.toNat % 2 = 0 ∨ x.toBitVec.toNat % 2 = 1 := by omega
  rcases h2 with e | e <;> rw [show (2 : Nat) ^ 1 = 2 from rfl, e] at h1 <;> exact absurd h1 (by decide)
theorem rdR_lt {f : Nat → Int32} {L q : Nat} (h : ¬ rdR f L q = -1) : q / 8 < L := Decidable.byContradiction fun hc => h (if_neg hc)
theorem rdR_nlt {f : Nat → Int32} {L q : Nat} (h : rdR f L q = -1) : ¬ q / 8 < L := fun hc => by
  rw [rdR, if_pos hc] at h
  exact and1_ne _ h
theorem rdQ_le (L q : Nat) : rdQ L q ≤ q + 1 := by
  unfold rdQ
  split <;> omega
theorem rdO_le (f : Nat → Int32) (L : Nat) : ∀ (k o q : Nat), (rdO f L k o q).2 ≤ q + k
  | 0, o, q => Nat.le_refl q
  | k + 1, o, q => by
    have h1 := rdQ_le L q
    rw [rdO]
    split
    · split
      · show rdQ L q ≤ _; omega
      · have := rdO_le f L k (o + 1) (rdQ L q); omega
    · show q ≤ _; omega
theorem rdB_le (f : Nat → Int32) (L : Nat) : ∀ (k q : Nat) (x : Int32), (rdB f L k q x).2 ≤ q + k
  | 0, q, x => Nat.le_refl q
  | k + 1, q, x => by
    have h1 := rdQ_le L q
    rw [rdB]
    split
    · have := rdB_le f L k (rdQ L q) (x * 2 + rdR f L q); omega
    · show q ≤ _; omega
theorem missF_congr {px : Nat → Int32} {x y : Nat} {f g : Nat → Int32} (h : ∀ j, j < 16 → f j = g j) : missF px x y f 16 = missF px x y g 16 := by
  have key : ∀ k, k ≤ 16 → missF px x y f k = missF px x y g k := by
    intro k
    induction k with
    | zero => intro _; rfl
    | succ k ih =>
      intro hk
      rw [missF, missF, ih (by omega), h k (by omega)]
  exact key 16 (Nat.le_refl 16)
theorem upd_ag {f g : Nat → Int32} {k : Nat} {v w : Int32} {N : Nat} (h : ∀ j, j < N → f j = g j) (hv : v = w) : ∀ j, j < N → upd f k v j = upd g k w j := by
  intro j hj
  by_cases e : j = k
  · subst e; rw [pk_us, pk_us, hv]
  · rw [pk_un e, pk_un e, h j hj]
theorem trL_ag {f g : Nat → Int32} {a b c d : Nat} (ha : a < 16) (hb : b < 16) (hc : c < 16) (hd : d < 16) (h : ∀ j, j < 16 → f j = g j) : ∀ j, j < 16 → trL f a b c d j = trL g a b c d j := by
  unfold trL
  rw [h a ha, h b hb, h c hc, h d hd]
  exact upd_ag (upd_ag (upd_ag (upd_ag h rfl) rfl) rfl) rfl
theorem trR_ag {f g : Nat → Int32} (h : ∀ j, j < 16 → f j = g j) : ∀ k, k ≤ 4 → ∀ j, j < 16 → trR f k j = trR g k j
  | 0, _ => h
  | k + 1, hk => trL_ag (by omega) (by omega) (by omega) (by omega) (trR_ag h k (by omega))
theorem trC_ag {f g : Nat → Int32} (h : ∀ j, j < 16 → f j = g j) : ∀ k, k ≤ 4 → ∀ j, j < 16 → trC f k j = trC g k j
  | 0, _ => h
  | k + 1, hk => trL_ag (by omega) (by omega) (by omega) (by omega) (trC_ag h k (by omega))
def trT (f : Nat → Int32) : Nat → Int32 := trC (trR f 4) 4
theorem trT_ag {f g : Nat → Int32} (h : ∀ j, j < 16 → f j = g j) : ∀ j, j < 16 → trT f j = trT g j := trC_ag (trR_ag h 4 (Nat.le_refl 4)) 4 (Nat.le_refl 4)
theorem upTo_ag {f g : Nat → Int32} (h : ∀ j, j < 16 → f j = g j) : ∀ k, k ≤ 16 → upTo f k = upTo g k
  | 0, _ => rfl
  | k + 1, hk => by rw [upTo, upTo, h k (by omega), upTo_ag h k (by omega)]
theorem upTo_le (f : Nat → Int32) : ∀ k, upTo f k ≤ k
  | 0 => Nat.le_refl 0
  | k + 1 => by
    have := upTo_le f k
    rw [upTo]
    split <;> omega
theorem meanB_ag {vr vc : Int32} {ab ab2 lf lf2 : Nat → Int32} (h1 : ∀ j, j < 4 → ab j = ab2 j) (h2 : ∀ j, j < 4 → lf j = lf2 j) : meanB vr vc ab lf = meanB vr vc ab2 lf2 := by
  unfold meanB
  rw [h1 0 (by decide), h1 1 (by decide), h1 2 (by decide), h1 3 (by decide), h2 0 (by decide), h2 1 (by decide), h2 2 (by decide), h2 3 (by decide)]
theorem foreB_ag {vr vc cr way : Int32} {ab ab2 lf lf2 : Nat → Int32} (h1 : ∀ j, j < 4 → ab j = ab2 j) (h2 : ∀ j, j < 4 → lf j = lf2 j) : ∀ j, j < 16 → foreB vr vc ab lf cr way j = foreB vr vc ab2 lf2 cr way j := by
  intro j hj
  unfold foreB
  rw [meanB_ag h1 h2, h1 (j % 4) (by omega), h2 (j / 4) (by omega)]
theorem bestF_ag {px : Nat → Int32} {x y : Nat} {vr vc cr : Int32} {ab ab2 lf lf2 : Nat → Int32} (h1 : ∀ j, j < 4 → ab j = ab2 j) (h2 : ∀ j, j < 4 → lf j = lf2 j) : ∀ k, bestF px x y vr vc ab lf cr k = bestF px x y vr vc ab2 lf2 cr k
  | 0 => rfl
  | k + 1 => by rw [bestF, bestF, bestF_ag h1 h2 k, missF_congr (foreB_ag h1 h2)]
theorem bestF_lt {px : Nat → Int32} {x y : Nat} {vr vc cr : Int32} {ab lf : Nat → Int32} : ∀ k, (bestF px x y vr vc ab lf cr k).1 < k + 1
  | 0 => Nat.lt_succ_self 0
  | k + 1 => by
    have := bestF_lt (px := px) (x := x) (y := y) (vr := vr) (vc := vc) (cr := cr) (ab := ab) (lf := lf) k
    rw [bestF]
    split
    · omega
    · show k < k + 1 + 1; omega
theorem putF_ag {px : Nat → Int32} {x y : Nat} {v w : Nat → Int32} (h : ∀ j, j < 16 → v j = w j) : ∀ k, k ≤ 16 → putF px x y v k = putF px x y w k
  | 0, _ => rfl
  | k + 1, hk => by rw [putF, putF, putF_ag h k (by omega), h k (by omega)]
/-- the coder's row of bits, its counts, how many levels are not 0, the greatest -/
abbrev CS : Type := (Nat → Int32) × Nat × Int32 × Int32 × Int32 × Int32 × Int32 × Int32
def uJ (lev : Int32) : Int32 := if lev ≤ 0 then (-2) * lev else 2 * lev - 1
def uN (lev : Int32) : Nat := (uJ lev).toNatClampNeg
def wl1 (ix : Nat) (lev : Int32) (st : CS) : CS := match st with
  | (f, n, s, sn, s2, sn2, nz, gr) =>
    ((wrU (uN lev) (lcK ix s sn s2 sn2) f n).1, (wrU (uN lev) (lcK ix s sn s2 sn2) f n).2, (if ix = 0 then tlS s sn (nI (uN lev)) else s), (if ix = 0 then tlN sn else sn), (if ix = 0 then s2 else tlS s2 sn2 (nI (uN lev))), (if ix = 0 then sn2 else tlN sn2),
      nz + (if lev = 0 then 0 else 1), (if gr < (if 0 ≤ lev then lev else 0 - lev) then (if 0 ≤ lev then lev else 0 - lev) else gr))
def wlF (lv : Nat → Int32) : Nat → Nat → CS → CS
  | 0, _, st => st
  | k + 1, i, st => wlF lv k (i + 1) (wl1 i (lv i) st)
def wlS (lv : Nat → Int32) (st : CS) : CS := match st with
  | (f, n, r) => wlF lv (upTo lv 16) 0 (wrF (nI (upTo lv 16)) 5 f n, n + 5, r)
theorem wrU_le (u k : Nat) (f : Nat → Int32) (n : Nat) (hk : k ≤ 10) : (wrU u k f n).2 ≤ n + 26 := by
  unfold wrU
  split
  · show n + (u / 2 ^ k + 1) + k ≤ n + 26; omega
  · show n + 12 + 14 ≤ n + 26; omega
theorem lcK_le (ix : Nat) (s n s2 n2 : Int32) : lcK ix s n s2 n2 ≤ 10 := by
  unfold lcK
  split <;> exact lowK_le _ _
/-- a block of the coder: foretold one way; the way taken; its levels; the pixels that come back; the bits -/
def cbF (pd : Nat → Int32) (x y : Nat) (way : Int32) (j : Nat) : Int32 := foreB (b2i y) (b2i x) (abv pd x y) (lft pd x y) (crn pd x y) way j
def cbB (po pd : Nat → Int32) (x y : Nat) : Nat := (bestF po x y (b2i y) (b2i x) (abv pd x y) (lft pd x y) (crn pd x y) 4).1
def cbL (po pd : Nat → Int32) (x y : Nat) (q : Int32) (j : Nat) : Int32 := lvQ q (trT (fun j => po ((y + j / 4) * 12 + (x + j % 4)) - cbF pd x y (nI (cbB po pd x y)) j) j)
def rbP (pd : Nat → Int32) (x y : Nat) (fo lv : Nat → Int32) (q : Int32) : Nat → Int32 := putF pd x y (fun j => clip (fo j + ((trT (fun j => lv j * (1 <<< (q &&& 31))) j + 8) >>> (4 &&& 31)))) 16
theorem wlF_ag {f g : Nat → Int32} (h : ∀ j, j < 16 → f j = g j) : ∀ (k i : Nat) (st : CS), i + k ≤ 16 → wlF f k i st = wlF g k i st
  | 0, _, _, _ => rfl
  | k + 1, i, st, hk => by rw [wlF, wlF, h i (by omega), wlF_ag h k (i + 1) _ (by omega)]
theorem wlS_ag {f g : Nat → Int32} (h : ∀ j, j < 16 → f j = g j) (st : CS) : wlS f st = wlS g st := by
  obtain ⟨b, n, r⟩ := st
  have h1 := upTo_le f 16
  unfold wlS
  rw [upTo_ag h 16 (Nat.le_refl 16)] at h1 ⊢
  exact wlF_ag h _ 0 _ (by omega)
theorem rb_ag {pd : Nat → Int32} {x y : Nat} {fo fo2 lv lv2 w0 : Nat → Int32} {q : Int32} (h1 : ∀ j, j < 16 → fo j = fo2 j) (h2 : ∀ j, j < 16 → lv j = lv2 j) (h3 : ∀ j, j < 16 → w0 j = lv j * (1 <<< (q &&& 31))) :
    putF pd x y (fun j => clip (fo j + ((trC (trR w0 4) 4 j + 8) >>> (4 &&& 31)))) 16 = rbP pd x y fo2 lv2 q := by
  refine putF_ag (fun j hj => ?_) 16 (Nat.le_refl 16)
  have h4 : trC (trR w0 4) 4 j = trT (fun j => lv2 j * (1 <<< (q &&& 31))) j := trT_ag (fun j hj => by rw [h3 j hj, h2 j hj]) j hj
  show clip (fo j + ((trC (trR w0 4) 4 j + 8) >>> (4 &&& 31))) = clip (fo2 j + ((trT (fun j => lv2 j * (1 <<< (q &&& 31))) j + 8) >>> (4 &&& 31)))
  rw [h1 j hj, h4]
def cbS (po pd : Nat → Int32) (x y : Nat) (q : Int32) (st : CS) : CS := match st with
  | (f, n, r) => wlS (cbL po pd x y q) (wrF (nI (cbB po pd x y)) 2 f n, n + 2, r)
def cbP (po pd : Nat → Int32) (x y : Nat) (q : Int32) : Nat → Int32 := rbP pd x y (cbF pd x y (nI (cbB po pd x y))) (cbL po pd x y q) q
/-- the reader's place, its counts, its levels: the levels of a block -/
abbrev RS : Type := Nat × Int32 × Int32 × Int32 × Int32 × (Nat → Int32)
def rlF (f : Nat → Int32) (L : Nat) (xl : Int32) : Nat → Nat → RS → Int32 × RS
  | 0, _, st => (0, st)
  | k + 1, i, (q, s, n, s2, n2, lv) =>
    if xl ≤ nI i then rlF f L xl k (i + 1) (q, s, n, s2, n2, upd lv i (lvOf 0))
    else if (rdU f L i s n s2 n2 q).1 = -1 then (1, (rdU f L i s n s2 n2 q).2.1, (rdU f L i s n s2 n2 q).2.2.1, (rdU f L i s n s2 n2 q).2.2.2.1, (rdU f L i s n s2 n2 q).2.2.2.2.1, (rdU f L i s n s2 n2 q).2.2.2.2.2, lv)
    else if (rdU f L i s n s2 n2 q).1 ≤ 8190 then rlF f L xl k (i + 1) ((rdU f L i s n s2 n2 q).2.1, (rdU f L i s n s2 n2 q).2.2.1, (rdU f L i s n s2 n2 q).2.2.2.1, (rdU f L i s n s2 n2 q).2.2.2.2.1, (rdU f L i s n s2 n2 q).2.2.2.2.2, upd lv i (lvOf (rdU f L i s n s2 n2 q).1))
    else (2, (rdU f L i s n s2 n2 q).2.1, (rdU f L i s n s2 n2 q).2.2.1, (rdU f L i s n s2 n2 q).2.2.2.1, (rdU f L i s n s2 n2 q).2.2.2.2.1, (rdU f L i s n s2 n2 q).2.2.2.2.2, lv)
def rlS (f : Nat → Int32) (L : Nat) (st : RS) : Int32 × RS := match st with
  | (q, r) => if (rdB f L 5 q 0).1 = -1 then (1, (rdB f L 5 q 0).2, r) else if (rdB f L 5 q 0).1 ≤ 16 then rlF f L (rdB f L 5 q 0).1 16 0 ((rdB f L 5 q 0).2, r) else (2, (rdB f L 5 q 0).2, r)
theorem rdU_le (f : Nat → Int32) (L ix : Nat) (s n s2 n2 : Int32) (q : Nat) : (rdU f L ix s n s2 n2 q).2.1 ≤ q + 26 := by
  have h1 := rdO_le f L 12 0 q
  have h2 := lcK_le ix s n s2 n2
  have h3 := rdB_le f L (if (rdO f L 12 0 q).1 = 12 then 14 else lcK ix s n s2 n2) (rdO f L 12 0 q).2 0
  have h4 : (if (rdO f L 12 0 q).1 = 12 then 14 else lcK ix s n s2 n2) ≤ 14 := by split <;> omega
  unfold rdU
  by_cases a : (rdO f L 12 0 q).1 = -1
  · rw [if_pos a]
    show (rdO f L 12 0 q).2 ≤ q + 26
    omega
  · rw [if_neg a]
    by_cases b : (rdB f L (if (rdO f L 12 0 q).1 = 12 then 14 else lcK ix s n s2 n2) (rdO f L 12 0 q).2 0).1 = -1
    · rw [if_pos b]
      show (rdB f L (if (rdO f L 12 0 q).1 = 12 then 14 else lcK ix s n s2 n2) (rdO f L 12 0 q).2 0).2 ≤ q + 26
      omega
    · rw [if_neg b]
      show (rdB f L (if (rdO f L 12 0 q).1 = 12 then 14 else lcK ix s n s2 n2) (rdO f L 12 0 q).2 0).2 ≤ q + 26
      omega
/-- the reader's whole state: how it ended, place, counts, levels, pixels, ways, how many, bits of the blocks -/
abbrev RD : Type := Int32 × Nat × Int32 × Int32 × Int32 × Int32 × (Nat → Int32) × (Nat → Int32) × (Nat → Int32) × Nat × Int32
def rb2 (f : Nat → Int32) (x y : Nat) (way : Int32) (px md : Nat → Int32) (kn : Nat) (bo : Int32) (st : Int32 × RS) : RD := match st with
  | (e, q, s, n, s2, n2, lv) => if e = 0 then (e, q, s, n, s2, n2, lv, rbP px x y (cbF px x y way) lv (f 2), upd md kn way, kn + 1, nI q) else (e, q, s, n, s2, n2, lv, px, md, kn, bo)
def rb1 (f : Nat → Int32) (L x y : Nat) (st : RD) : RD := match st with
  | (_, q, s, n, s2, n2, lv, px, md, kn, bo) =>
    if (rdB f L 2 q 0).1 = -1 then (1, (rdB f L 2 q 0).2, s, n, s2, n2, lv, px, md, kn, bo)
    else rb2 f x y (rdB f L 2 q 0).1 px md kn bo (rlS f L ((rdB f L 2 q 0).2, s, n, s2, n2, lv))
