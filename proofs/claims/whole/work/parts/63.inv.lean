/-! between the two objects: what holds where the law's loop begins anew -/
theorem updL0 (f : Nat → Int64) (v : Int64) : vp_updL f 0 v 0 = v := by simp [vp_updL]
theorem updD0 (f : Nat → UInt64) (v : UInt64) : vf_upd f 0 v 0 = v := by simp [vf_upd]
def PicI (px : Nat → Int32) (z w h : Int32) (pix wd hg thr : Nat → Int32) (o : Nat) : Prop :=
  (z = 0 ∧ thr o = 0) ∨ (¬ z = 0 ∧ ¬ thr o = 0 ∧ ∃ cw ch : Nat, (1 ≤ cw ∧ cw ≤ 3) ∧ (1 ≤ ch ∧ ch ≤ 3) ∧ w = nI (4 * cw) ∧ h = nI (4 * ch) ∧ wd o = nI (4 * cw) ∧ hg o = nI (4 * ch) ∧ ∀ x y, x < 4 * cw → y < 4 * ch → px (y * 12 + x) = pix (144 * o + (y * 12 + x)))
def P0I (px : Nat → Int32) (z w h : Int32) (pix wd hg thr : Nat → Int32) : Prop :=
  ¬ z = 0 ∧ ¬ thr 0 = 0 ∧ (∃ cw ch : Nat, (1 ≤ cw ∧ cw ≤ 3) ∧ (1 ≤ ch ∧ ch ≤ 3) ∧ w = nI (4 * cw) ∧ h = nI (4 * ch) ∧ wd 0 = nI (4 * cw) ∧ hg 0 = nI (4 * ch)) ∧ ∀ j, j < 144 → px j = pix j
theorem P0I.pic {px pix wd hg thr : Nat → Int32} {z w h : Int32} (H : P0I px z w h pix wd hg thr) : PicI px z w h pix wd hg thr 0 := by
  obtain ⟨h1, h2, ⟨cw, ch, g1, g2, g3, g4, g5, g6⟩, h3⟩ := H
  exact Or.inr ⟨h1, h2, cw, ch, g1, g2, g3, g4, g5, g6, fun x y hx hy => by rw [h3 _ (by omega)]; congr 1; omega⟩
theorem PicI.mono {px pix pix' wd wd' hg hg' thr thr' : Nat → Int32} {z w h : Int32} {o : Nat} (H : PicI px z w h pix wd hg thr o) (h1 : wd' o = wd o) (h2 : hg' o = hg o) (h3 : thr' o = thr o) (h4 : ∀ j, j < 144 → pix' (144 * o + j) = pix (144 * o + j)) : PicI px z w h pix' wd' hg' thr' o := by
  rcases H with ⟨a, b⟩ | ⟨a, b, cw, ch, g1, g2, g3, g4, g5, g6, g7⟩
  · exact Or.inl ⟨a, by rw [h3]; exact b⟩
  · exact Or.inr ⟨a, by rw [h3]; exact b, cw, ch, g1, g2, g3, g4, by rw [h1]; exact g5, by rw [h2]; exact g6, fun x y hx hy => by rw [h4 _ (by omega)]; exact g7 x y hx hy⟩
/-- the copy's modes -/
def McI (mdc : Nat → Int32) (vkc : Int32) (mds wd hg thr : Nat → Int32) : Prop :=
  ∃ n : Nat, n ≤ 9 ∧ vkc = nI n ∧ (∀ j, j < n → mdc j = mds j) ∧ ((thr 1 = 0 ∧ n = 0) ∨ (¬ thr 1 = 0 ∧ ∃ cw ch : Nat, cw ≤ 3 ∧ ch ≤ 3 ∧ wd 1 = nI (4 * cw) ∧ hg 1 = nI (4 * ch) ∧ n = cw * ch))
/-- the result's modes -/
def MrI (mdr : Nat → Int32) (vkr ibk : Int32) (mds : Nat → Int32) (mbk : Int32) : Prop :=
  ∃ n : Nat, n ≤ 9 ∧ vkr = nI n ∧ ibk = nI n ∧ mbk = nI n ∧ ∀ j, j < n → mdr j = mds (9 + j)
def RowI (yt : Nat → Int32) (yl : Nat) (str : Nat → Int32) (isz : Int32) : Prop := isz = nI yl ∧ yl ≤ 400 ∧ ∀ j, j < yl → yt j = str j ∧ sm (yt j)
def INV (px : Nat → Int32) (vz vw vh : Int32) (pxc mdc : Nat → Int32) (vzc vwc vhc vkc : Int32) (pxr mdr : Nat → Int32) (vzr vwr vhr vkr : Int32) (yt : Nat → Int32) (yl : Nat) (ibc ilc igl ibk ifa ibd : Int32) (wd hg pix str mds thr : Nat → Int32) (isz ibl ile igr mbk ist ibr : Int32) : Prop :=
  P0I px vz vw vh pix wd hg thr ∧ PicI pxc vzc vwc vhc pix wd hg thr 1 ∧ PicI pxr vzr vwr vhr pix wd hg thr 2 ∧ McI mdc vkc mds wd hg thr ∧ MrI mdr vkr ibk mds mbk ∧ RowI yt yl str isz ∧ (ibc = ibl ∧ ilc = ile ∧ igl = igr ∧ ifa = ist ∧ ibd = ibr) ∧ PX pix
theorem nI_inj {a b : Nat} (h : nI a = nI b) (ha : a < 2 ^ 31) (hb : b < 2 ^ 31) : a = b := (nI_eq ha hb).mp h
theorem nI_sub {a b : Nat} (h : b ≤ a) : nI a - nI b = nI (a - b) := by
  have e : nI a = nI (a - b) + nI b := by rw [nI_add, Nat.sub_add_cancel h]
  rw [e, Int32.add_sub_cancel]
theorem sm_of {v : Int32} (h : ¬ v < 0 ∧ ¬ 255 < v) : sm v := by
  obtain ⟨j, h1, h2⟩ := nI_of2 (x := v) (M := 255) (n := 255) rfl h.1 (Int32.not_lt.mp h.2)
  exact ⟨j, h1, h2⟩
theorem has_nI {cw ch : Nat} {a b : Int32} (hcw : cw ≤ 3) (hch : ch ≤ 3) (h : hasP (nI (4 * cw)) (nI (4 * ch)) a b) : ∃ x y : Nat, x < 4 * cw ∧ y < 4 * ch ∧ a = nI x ∧ b = nI y := by
  obtain ⟨h1, h2, -, h4, h5, -⟩ := h
  obtain ⟨x, hx, rfl⟩ := nI_of h1
  obtain ⟨y, hy, rfl⟩ := nI_of h4
  exact ⟨x, y, Nat.not_le.mp (fun q => h2 ((nI_leI (by omega) hx).mpr q)), Nat.not_le.mp (fun q => h5 ((nI_leI (by omega) hy).mpr q)), rfl, rfl⟩
theorem in_nI {n : Nat} {a : Int32} (hn : n ≤ 1000) (h : ¬ a < 0 ∧ ¬ nI n - 1 < a) : ∃ x : Nat, x < n ∧ a = nI x := by
  rcases Nat.eq_zero_or_pos n with e | e
  · subst e; exact absurd h cs_in0
  · rw [cs_pred e] at h
    obtain ⟨x, hx, rfl⟩ := nI_of h.1
    refine ⟨x, ?_, rfl⟩
    have h2 : ¬ n - 1 < x := fun q => h.2 ((nI_ltI (a := n - 1) (b := x) (by omega) hx).mpr q)
    omega
theorem in2_nI {cw ch : Nat} {w h a b : Int32} (hcw : cw ≤ 3) (hch : ch ≤ 3) (ew : w = nI (4 * cw)) (eh : h = nI (4 * ch)) (q : (¬ a < 0 ∧ ¬ w - 1 < a) ∧ (¬ b < 0 ∧ ¬ h - 1 < b)) : ∃ x y : Nat, x < 4 * cw ∧ y < 4 * ch ∧ a = nI x ∧ b = nI y := by
  subst ew; subst eh
  obtain ⟨x, h1, h2⟩ := in_nI (by omega) q.1
  obtain ⟨y, h3, h4⟩ := in_nI (by omega) q.2
  exact ⟨x, y, h1, h3, h2, h4⟩
theorem sz_eq {a b : Int32} (h1 : sideP a) (h2 : sideP b) : a / 4 * (b / 4) = a * b / 16 := by
  rcases h1 with rfl | rfl | rfl <;> rcases h2 with rfl | rfl | rfl <;> decide
theorem side_nI {a : Int32} (h : sideP a) : ∃ c : Nat, (1 ≤ c ∧ c ≤ 3) ∧ a = nI (4 * c) := by
  rcases h with rfl | rfl | rfl
  · exact ⟨1, by decide, rfl⟩
  · exact ⟨2, by decide, rfl⟩
  · exact ⟨3, by decide, rfl⟩
theorem s4_nI {a : Int32} (hs : sm a) (h : sideP (a * 4)) : ∃ k : Nat, (1 ≤ k ∧ k ≤ 3) ∧ a = nI k := by
  obtain ⟨n, hn, rfl⟩ := hs
  rw [show nI n * 4 = nI (n * 4) from pk_mul n 4] at h
  refine ⟨n, ?_, rfl⟩
  rcases h with h | h | h
  · have := nI_inj (b := 4) h (by omega) (by decide); omega
  · have := nI_inj (b := 8) h (by omega) (by decide); omega
  · have := nI_inj (b := 12) h (by omega) (by decide); omega
theorem k13_nI {a : Int32} (h : ¬ a < 1 ∧ ¬ 3 < a) : ∃ k : Nat, (1 ≤ k ∧ k ≤ 3) ∧ a = nI k := by
  obtain ⟨n, hn, rfl⟩ := nI_of (x := a) (fun q => h.1 (Int32.lt_trans q (by decide)))
  refine ⟨n, ?_, rfl⟩
  have h1 : ¬ n < 1 := fun q => h.1 ((nI_ltI (a := n) (b := 1) hn (by decide)).mpr q)
  have h2 : ¬ 3 < n := fun q => h.2 ((nI_ltI (a := 3) (b := n) (by decide) hn).mpr q)
  omega
/-! bytes stay small -/
def SB (f : Nat → Int32) (n : Nat) : Prop := ∀ i, i < (n + 7) / 8 → sm (f i)
theorem or_sm1 : ∀ n : Fin 256, ∀ r : Fin 8, nI n.val ||| ((128 : Int32) >>> (nI r.val &&& 31)) = nI (n.val ||| (128 >>> r.val)) ∧ (n.val ||| (128 >>> r.val)) ≤ 255 := by decide +kernel
theorem or_sm {x : Int32} {r : Nat} (h : sm x) (hr : r < 8) : sm (x ||| ((128 : Int32) >>> (nI r &&& 31))) := by
  obtain ⟨n, hn, rfl⟩ := h
  obtain ⟨h1, h2⟩ := or_sm1 ⟨n, by omega⟩ ⟨r, hr⟩
  exact ⟨_, h2, h1⟩
theorem sb_pw0 {f : Nat → Int32} {n : Nat} (h : SB f n) : SB (pw0 f n) (n + 1) := by
  intro i hi
  unfold pw0
  split
  · by_cases e : i = n / 8
    · subst e; rw [pk_us]; exact ⟨0, by decide, rfl⟩
    · rw [pk_un e]; exact h i (by omega)
  · exact h i (by omega)
theorem sb_pw1 {f : Nat → Int32} {n : Nat} {b : Int32} (h : SB f n) : SB (pw1 f n b) (n + 1) := by
  have h0 := sb_pw0 h
  unfold pw1
  split
  · intro i hi
    by_cases e : i = n / 8
    · subst e; rw [pk_us]; exact or_sm (h0 _ (by omega)) (by omega)
    · rw [pk_un e]; exact h0 i hi
  · exact h0
theorem sb_pwF {v : Int32} : ∀ (k : Nat) {f : Nat → Int32} {n : Nat}, SB f n → SB (pwF v k f n) (n + k)
  | 0, f, n, h => h
  | k + 1, f, n, h => by
    have h1 := sb_pwF (v := v) k (sb_pw1 (b := (v >>> (nI k &&& 31)) &&& 1) h)
    rw [pwF, show n + (k + 1) = n + 1 + k by omega]
    exact h1
theorem sb_pwO : ∀ (k : Nat) {f : Nat → Int32} {n : Nat}, SB f n → SB (pwO k f n) (n + k)
  | 0, f, n, h => h
  | k + 1, f, n, h => by
    have h1 := sb_pwF (v := 1) 1 (sb_pwO k h)
    rw [pwO]
    exact h1
theorem sb_puU {f : Nat → Int32} {u k n : Nat} (h : SB f n) : SB (puU u k f n).1 (puU u k f n).2 := by
  unfold puU
  split
  · exact sb_pwF k (sb_pwF 1 (sb_pwO _ h))
  · exact sb_pwF 14 (sb_pwO 12 h)
theorem sb_plF {lv : Nat → Int32} : ∀ (k i : Nat) (st : PS), SB st.1 st.2.1 → SB (plF lv k i st).1 (plF lv k i st).2.1
  | 0, i, st, h => h
  | k + 1, i, st, h => by
    rw [plF]
    refine sb_plF k (i + 1) _ ?_
    obtain ⟨f, n, su, mn⟩ := st
    exact sb_puU h
theorem sb_codeR {x y ix : Nat} {q : Int32} {st st' : ES} (h : SB st.2.2.1 st.2.2.2.1) (hR : codeR x y ix q st st') : SB st'.2.2.1 st'.2.2.2.1 := by
  obtain ⟨pix, nmd, lad, nb, su, mn, ile, igr⟩ := st
  obtain ⟨wk, lv, td, -, -, -, rfl⟩ := hR
  exact sb_plF (lv := lv) _ 0 _ (sb_pwF 5 (sb_pwF 2 h))
theorem sb_ERel {cw : Nat} {q : Int32} {st0 : ES} (h : SB st0.2.2.1 st0.2.2.2.1) : ∀ b e, ERel cw q st0 b e → SB e.2.2.1 e.2.2.2.1
  | 0, e, hR => by
    have hR : e = st0 := hR
    rw [hR]; exact h
  | b + 1, e, hR => by
    obtain ⟨st, h1, h2⟩ := hR
    exact sb_codeR (sb_ERel h b st h1) h2
theorem seen_all {cw ch x y : Nat} (hcw : cw ≤ 3) (hch : ch ≤ 3) (hx : x < 4 * cw) (hy : y < 4 * ch) : seen cw (cw * ch) (y * 12 + x) := by
  unfold seen
  have e1 : (y * 12 + x) % 12 = x := by omega
  have e2 : (y * 12 + x) / 12 = y := by omega
  rw [e1, e2]
  refine ⟨by omega, hx, ?_⟩
  have h1 : x / 4 < cw := by omega
  have h2 : y / 4 < ch := by omega
  have h3 : (y / 4 + 1) * cw ≤ ch * cw := Nat.mul_le_mul_right _ h2
  rw [Nat.succ_mul] at h3
  rw [Nat.mul_comm cw ch]
  omega
