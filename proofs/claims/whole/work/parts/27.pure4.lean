/-! the reference's block -/
def missG (d : Nat → Int32) : Nat → Int32
  | 0 => 0
  | k + 1 => missG d k + (if 0 ≤ d k then d k else -(d k))
def bestG (D : Nat → Nat → Int32) : Nat → Nat × Int32
  | 0 => (0, -1)
  | m + 1 => if (bestG D m).2 < 0 then (m, missG (D m) 16) else if missG (D m) 16 < (bestG D m).2 then (m, missG (D m) 16) else bestG D m
def dfG (pix : Nat → Int32) (ry cx : Nat) (ab lf : Nat → Int32) (co : Int32) (x y : Nat) (way : Int32) (k : Nat) : Int32 :=
  pix (144 * 0 + ((y + k / 4) * 12 + (x + k % 4))) - fo2 ry cx ab lf co way (k % 4) (k / 4)
def dfC (pix : Nat → Int32) (x y : Nat) (way : Int32) (k : Nat) : Int32 := dfG pix y x (abv (oP pix 3) x y) (lft (oP pix 3) x y) (crn (oP pix 3) x y) x y way k
def cgB (pix : Nat → Int32) (x y : Nat) : Nat := (bestG (fun m => dfC pix x y (nI m)) 4).1
def lG (q c : Int32) : Int32 := ((if 0 ≤ c then c else -c) + ((1 : Int32) <<< (q &&& 31)) / 2) / ((1 : Int32) <<< (q &&& 31))
def lvG (q c : Int32) : Int32 := if 0 ≤ c then lG q c else -(lG q c)
def stG (q : Int32) (wk : Nat → Int32) (l0 g0 : Int32) : Nat → Nat × Int32 × Int32
  | 0 => (0, l0, g0)
  | k + 1 => (if lG q (wk k) ≤ 0 then (stG q wk l0 g0 k).1 else k + 1, if lG q (wk k) ≤ 0 then (stG q wk l0 g0 k).2.1 else (stG q wk l0 g0 k).2.1 + 1, if lG q (wk k) ≤ (stG q wk l0 g0 k).2.2 then (stG q wk l0 g0 k).2.2 else lG q (wk k))
abbrev PS : Type := (Nat → Int32) × Nat × (Nat → Int32) × (Nat → Int32)
def ctG (i : Nat) : Nat := if i = 0 then 0 else 1
def pl1 (i : Nat) (lev : Int32) (st : PS) : PS := match st with
  | (f, n, su, mn) => ((puU (uN lev) (lowK (mn (ctG i)) (su (ctG i))) f n).1, (puU (uN lev) (lowK (mn (ctG i)) (su (ctG i))) f n).2, upd su (ctG i) (lrS (su (ctG i)) (mn (ctG i)) (nI (uN lev))), upd mn (ctG i) (lrN (mn (ctG i))))
def plF (lv : Nat → Int32) : Nat → Nat → PS → PS
  | 0, _, st => st
  | k + 1, i, st => plF lv k (i + 1) (pl1 i (lv i) st)
theorem puU_le (u k : Nat) (f : Nat → Int32) (n : Nat) (hk : k ≤ 10) : (puU u k f n).2 ≤ n + 26 := by
  unfold puU
  split
  · show n + u / 2 ^ k + 1 + k ≤ n + 26; omega
  · show n + 12 + 14 ≤ n + 26; omega
theorem plF_le (lv : Nat → Int32) : ∀ (k i : Nat) (st : PS), (plF lv k i st).2.1 ≤ st.2.1 + 26 * k
  | 0, _, _ => Nat.le_refl _
  | k + 1, i, (f, n, su, mn) => by
    have h1 := puU_le (uN (lv i)) (lowK (mn (ctG i)) (su (ctG i))) f n (lowK_le _ _)
    have h2 := plF_le lv k (i + 1) (pl1 i (lv i) (f, n, su, mn))
    rw [plF]
    have h3 : (pl1 i (lv i) (f, n, su, mn)).2.1 = (puU (uN (lv i)) (lowK (mn (ctG i)) (su (ctG i))) f n).2 := rfl
    show _ ≤ n + 26 * (k + 1)
    omega
theorem stG_le (q : Int32) (wk : Nat → Int32) (l0 g0 : Int32) : ∀ k, (stG q wk l0 g0 k).1 ≤ k
  | 0 => Nat.le_refl 0
  | k + 1 => by
    have := stG_le q wk l0 g0 k
    rw [stG]
    show (if lG q (wk k) ≤ 0 then (stG q wk l0 g0 k).1 else k + 1) ≤ k + 1
    split <;> omega
theorem missG_ag {d e : Nat → Int32} (h : ∀ j, j < 16 → d j = e j) : ∀ k, k ≤ 16 → missG d k = missG e k
  | 0, _ => rfl
  | k + 1, hk => by rw [missG, missG, missG_ag h k (by omega), h k (by omega)]
theorem bestG_ag {D E : Nat → Nat → Int32} (h : ∀ m j, j < 16 → D m j = E m j) : ∀ m, bestG D m = bestG E m
  | 0 => rfl
  | m + 1 => by rw [bestG, bestG, bestG_ag h m, missG_ag (h m) 16 (Nat.le_refl 16)]
theorem bestG_lt {D : Nat → Nat → Int32} : ∀ m, (bestG D m).1 < m + 1
  | 0 => Nat.lt_succ_self 0
  | m + 1 => by
    have := bestG_lt (D := D) m
    rw [bestG]
    split
    · show m < m + 1 + 1; omega
    · split
      · show m < m + 1 + 1; omega
      · omega
theorem fo2_ag {ry cx : Nat} {ab ab2 lf lf2 : Nat → Int32} {co way : Int32} (h1 : ∀ j, j < 4 → ab j = ab2 j) (h2 : ∀ j, j < 4 → lf j = lf2 j) {i j : Nat} (hi : i < 4) (hj : j < 4) : fo2 ry cx ab lf co way i j = fo2 ry cx ab2 lf2 co way i j := by
  unfold fo2
  rw [meanB_ag h1 h2, h1 i hi, h2 j hj]
theorem dfG_ag {pix : Nat → Int32} {x y : Nat} {ab lf : Nat → Int32} {way : Int32} (h1 : ∀ j, j < 4 → ab j = abv (oP pix 3) x y j) (h2 : ∀ j, j < 4 → lf j = lft (oP pix 3) x y j) : ∀ j, j < 16 → dfG pix y x ab lf (crn (oP pix 3) x y) x y way j = dfC pix x y way j := by
  intro j hj
  unfold dfC dfG
  rw [fo2_ag h1 h2 (by omega) (by omega)]
theorem shl_ne {q : Int32} (h : coarP q) : ¬ (1 : Int32) <<< (q &&& 31) = 0 := by
  obtain ⟨k, hk, rfl⟩ := coar_nI h
  have : k = 0 ∨ k = 1 ∨ k = 2 ∨ k = 3 ∨ k = 4 ∨ k = 5 := by omega
  rcases this with rfl | rfl | rfl | rfl | rfl | rfl <;> decide
