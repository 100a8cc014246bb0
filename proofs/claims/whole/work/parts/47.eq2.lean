/-! a block coded: what it sees, its levels, its pixels -/
def seen (cw b j : Nat) : Prop := j < 144 ∧ j % 12 < 4 * cw ∧ j / 12 / 4 * cw + j % 12 / 4 < b
theorem cw123 {cx cw : Nat} (h1 : cx < cw) (h2 : cw ≤ 3) : cw = 1 ∨ cw = 2 ∨ cw = 3 := by omega
theorem seen_abv {cw cx cy i : Nat} (hcw : cw ≤ 3) (hcx : cx < cw) (hcy : cy < 3) (h0 : ¬ cy = 0) (hi : i < 4) : seen cw (cy * cw + cx) ((4 * cy - 1) * 12 + (4 * cx + i)) := by
  unfold seen
  rcases cw123 hcx hcw with rfl | rfl | rfl <;> omega
theorem seen_lft {cw cx cy i : Nat} (hcw : cw ≤ 3) (hcx : cx < cw) (hcy : cy < 3) (h0 : ¬ cx = 0) (hi : i < 4) : seen cw (cy * cw + cx) ((4 * cy + i) * 12 + (4 * cx - 1)) := by
  unfold seen
  rcases cw123 hcx hcw with rfl | rfl | rfl <;> omega
theorem seen_crn {cw cx cy : Nat} (hcw : cw ≤ 3) (hcx : cx < cw) (hcy : cy < 3) (h0 : ¬ cx = 0) (h1 : ¬ cy = 0) : seen cw (cy * cw + cx) ((4 * cy - 1) * 12 + (4 * cx - 1)) := by
  unfold seen
  rcases cw123 hcx hcw with rfl | rfl | rfl <;> omega
def near (f g : Nat → Int32) (x y : Nat) : Prop := (∀ i, i < 4 → abv f x y i = abv g x y i) ∧ (∀ i, i < 4 → lft f x y i = lft g x y i) ∧ crn f x y = crn g x y
theorem near_of {f g : Nat → Int32} {cw cx cy : Nat} (hcw : cw ≤ 3) (hcx : cx < cw) (hcy : cy < 3) (h : ∀ j, seen cw (cy * cw + cx) j → f j = g j) : near f g (4 * cx) (4 * cy) := by
  refine ⟨fun i hi => ?_, fun i hi => ?_, ?_⟩
  · unfold abv
    by_cases e : cy = 0
    · rw [if_pos (by omega), if_pos (by omega)]
    · rw [if_neg (by omega), if_neg (by omega)]; exact h _ (seen_abv hcw hcx hcy e hi)
  · unfold lft
    by_cases e : cx = 0
    · rw [if_pos (by omega), if_pos (by omega)]
    · rw [if_neg (by omega), if_neg (by omega)]; exact h _ (seen_lft hcw hcx hcy e hi)
  · unfold crn
    by_cases e : cy = 0
    · have hy : 4 * cy = 0 := by omega
      rw [if_pos hy, if_pos hy]
    · have hy : ¬ 4 * cy = 0 := by omega
      rw [if_neg hy, if_neg hy]
      by_cases e2 : cx = 0
      · have hx : 4 * cx = 0 := by omega
        rw [if_pos hx, if_pos hx]
      · have hx : ¬ 4 * cx = 0 := by omega
        rw [if_neg hx, if_neg hx]; exact h _ (seen_crn hcw hcx hcy e2 e)
theorem cbF_near {f g : Nat → Int32} {x y : Nat} (h : near f g x y) (way : Int32) : ∀ j, j < 16 → cbF f x y way j = cbF g x y way j := by
  intro j hj
  unfold cbF foreB
  rw [meanB_ag h.1 h.2.1, h.1 (j % 4) (by omega), h.2.1 (j / 4) (by omega), h.2.2]
theorem cbB_eq {po pd pix : Nat → Int32} {x y : Nat} (h0 : ∀ j, j < 144 → po j = oP pix 0 j) (hn : near pd (oP pix 3) x y) (hx : x + 4 ≤ 12) (hy : y + 4 ≤ 12) (hp : PX pix) : cbB po pd x y = cgB pix x y := by
  unfold cbB cgB
  rw [bestFH, bestH_ag (E := fun m => dfC pix x y (nI m)) (fun m j hj => by rw [dfC_eq, h0 _ (by omega)]; exact congrArg (fun w => oP pix 0 _ - w) (cbF_near hn (nI m) j hj))]
  rw [(bestHG (D := fun m => dfC pix x y (nI m)) (fun m _ j hj => dfC_bd hp hx hy (nI m) j hj) 3 (by decide)).1]
theorem lG_nI {q c : Int32} (hq : coarP q) (hc : bd 4080 c) : ∃ m : Nat, m ≤ 4096 ∧ lG q c = nI m := by
  obtain ⟨k, hk, rfl⟩ := coar_nI hq
  obtain ⟨n, hn, e, -, -, -⟩ := absN (B := 4080) hc (by decide)
  have hp : 2 ^ k ≤ 2 ^ 5 := Nat.pow_le_pow_right (by decide) hk
  have hp0 : 0 < 2 ^ k := Nat.two_pow_pos k
  have e3 : (if 0 ≤ c then c else -c) = nI n := by rw [← e, neg0]
  have h1 : nI (2 ^ k) / 2 = nI (2 ^ k / 2) := pk_div (a := 2 ^ k) (d := 2) (by omega) (by decide) (by decide)
  refine ⟨(n + 2 ^ k / 2) / 2 ^ k, Nat.le_trans (Nat.div_le_self _ _) (by omega), ?_⟩
  unfold lG
  rw [e3, shl1 k hk, h1, nI_add]
  exact pk_div (a := n + 2 ^ k / 2) (d := 2 ^ k) (by omega) (by omega) (by omega)
theorem lG_abs {q c : Int32} (hq : coarP q) (hc : bd 4080 c) : (lG q c ≤ 0 ↔ lvG q c = 0) ∧ (if 0 ≤ lvG q c then lvG q c else 0 - lvG q c) = lG q c ∧ ¬ lG q c < 0 := by
  obtain ⟨m, hm, e⟩ := lG_nI hq hc
  have z : nI m = 0 ↔ m = 0 := nI_eq (a := m) (b := 0) (by omega) (by decide)
  have l : nI m ≤ 0 ↔ m = 0 := ⟨fun h => cs_le0 h (by omega), fun h => by rw [h]; decide⟩
  unfold lvG
  rw [e]
  refine ⟨?_, ?_, nI_pos (by omega)⟩
  · split
    · rw [l, z]
    · rw [l]
      refine ⟨fun h => by rw [h]; decide, fun h => z.mp ?_⟩
      have h9 : nI m = -(-(nI m)) := Int32.neg_neg.symm
      rw [h9, h]
      decide
  · split
    · rw [if_pos (nI_pos' (by omega))]
    · by_cases h0 : m = 0
      · subst h0; decide
      · have h1 : ¬ 0 ≤ -(nI m) := by
          intro h
          have h2 := Int32.le_iff_toInt_le.mp h
          rw [sb_negT (by omega)] at h2
          have : (0 : Int32).toInt = 0 := rfl
          omega
        rw [if_neg h1, neg0, Int32.neg_neg]
theorem mul_shl (a q : Int32) : a * (1 <<< q) = a <<< q := by
  apply Int32.toBitVec_inj.mp
  rw [Int32.toBitVec_mul, Int32.toBitVec_shiftLeft, Int32.toBitVec_shiftLeft]
  show a.toBitVec * ((1#32) <<< (q.toBitVec.smod 32).toNat) = a.toBitVec <<< (q.toBitVec.smod 32).toNat
  rw [BitVec.shiftLeft_eq_mul_twoPow a.toBitVec]
  rfl
theorem putF_cl (px : Nat → Int32) {x y : Nat} (hx : x + 4 ≤ 12) (v : Nat → Int32) (j : Nat) : ∀ k, k ≤ 16 → putF px x y v k j = if (y ≤ j / 12 ∧ j / 12 < y + 4 ∧ x ≤ j % 12 ∧ j % 12 < x + 4) ∧ (j / 12 - y) * 4 + (j % 12 - x) < k then v ((j / 12 - y) * 4 + (j % 12 - x)) else px j
  | 0, _ => by rw [if_neg (by omega)]; rfl
  | k + 1, hk => by
    rw [putF]
    by_cases e : j = (y + k / 4) * 12 + (x + k % 4)
    · have h1 : j / 12 = y + k / 4 := by omega
      have h2 : j % 12 = x + k % 4 := by omega
      have h3 : (j / 12 - y) * 4 + (j % 12 - x) = k := by omega
      rw [h3, if_pos (by omega), e, pk_us]
    · rw [pk_un e, putF_cl px hx v j k (by omega)]
      by_cases c : (y ≤ j / 12 ∧ j / 12 < y + 4 ∧ x ≤ j % 12 ∧ j % 12 < x + 4) ∧ (j / 12 - y) * 4 + (j % 12 - x) < k
      · rw [if_pos c, if_pos (by omega)]
      · rw [if_neg c, if_neg (by omega)]
theorem putO_oP (o : Nat) (pix : Nat → Int32) (x y : Nat) (v : Nat → Int32) (j : Nat) : ∀ k, oP (putO o pix x y v k) o j = putF (oP pix o) x y v k j
  | 0 => rfl
  | k + 1 => by
    have ih := putO_oP o pix x y v j k
    unfold oP at ih ⊢
    rw [putO, putF]
    by_cases e : j = (y + k / 4) * 12 + (x + k % 4)
    · rw [e, pk_us, pk_us]
    · rw [pk_un (by omega), pk_un e]; exact ih
theorem putO_lo (pix : Nat → Int32) (x y : Nat) (v : Nat → Int32) {j : Nat} (hj : j < 432) : ∀ k, putO 3 pix x y v k j = pix j
  | 0 => rfl
  | k + 1 => by rw [putO, pk_un (by omega)]; exact putO_lo pix x y v hj k
theorem put_sim {pd pix : Nat → Int32} {cw cx cy : Nat} {v w : Nat → Int32} (hcw : cw ≤ 3) (hcx : cx < cw) (hcy : cy < 3) (h : ∀ j, seen cw (cy * cw + cx) j → pd j = oP pix 3 j) (hv : ∀ j, j < 16 → v j = w j) :
    ∀ j, seen cw (cy * cw + cx + 1) j → putF pd (4 * cx) (4 * cy) v 16 j = oP (putO 3 pix (4 * cx) (4 * cy) w 16) 3 j := by
  intro j hj
  rw [putO_oP, putF_cl pd (by omega) v j 16 (Nat.le_refl 16), putF_cl (oP pix 3) (by omega) w j 16 (Nat.le_refl 16)]
  by_cases c : (4 * cy ≤ j / 12 ∧ j / 12 < 4 * cy + 4 ∧ 4 * cx ≤ j % 12 ∧ j % 12 < 4 * cx + 4) ∧ (j / 12 - 4 * cy) * 4 + (j % 12 - 4 * cx) < 16
  · rw [if_pos c, if_pos c]; exact hv _ c.2
  · rw [if_neg c, if_neg c]
    refine h j ?_
    unfold seen at hj ⊢
    rcases cw123 hcx hcw with rfl | rfl | rfl <;> omega
