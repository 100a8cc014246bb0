/-! bounds: residuals, the transform, levels -/
def bd (B : Int) (x : Int32) : Prop := -B ≤ x.toInt ∧ x.toInt ≤ B
theorem bd_mono {B C : Int} {x : Int32} (h : bd B x) (hBC : B ≤ C) : bd C x := ⟨by have := h.1; omega, by have := h.2; omega⟩
theorem i32_add {x y : Int32} {X Y : Int} (hx : bd X x) (hy : bd Y y) (h : X + Y < 2147483648) : (x + y).toInt = x.toInt + y.toInt := by
  have h1 := hx.1; have h2 := hx.2; have h3 := hy.1; have h4 := hy.2
  rw [Int32.toInt_add]
  exact Int.bmod_eq_of_le (by omega) (by omega)
theorem i32_sub {x y : Int32} {X Y : Int} (hx : bd X x) (hy : bd Y y) (h : X + Y < 2147483648) : (x - y).toInt = x.toInt - y.toInt := by
  have h1 := hx.1; have h2 := hx.2; have h3 := hy.1; have h4 := hy.2
  rw [Int32.toInt_sub]
  exact Int.bmod_eq_of_le (by omega) (by omega)
theorem bd_add {x y : Int32} {X Y : Int} (hx : bd X x) (hy : bd Y y) (h : X + Y < 2147483648) : bd (X + Y) (x + y) := by
  have h1 := hx.1; have h2 := hx.2; have h3 := hy.1; have h4 := hy.2
  unfold bd
  rw [i32_add hx hy h]
  omega
theorem bd_sub {x y : Int32} {X Y : Int} (hx : bd X x) (hy : bd Y y) (h : X + Y < 2147483648) : bd (X + Y) (x - y) := by
  have h1 := hx.1; have h2 := hx.2; have h3 := hy.1; have h4 := hy.2
  unfold bd
  rw [i32_sub hx hy h]
  omega
theorem trL_bd {f : Nat → Int32} {a b c d : Nat} {B : Int} {be : Nat → Int} (h : ∀ j, j < 16 → bd (be j) (f j)) (ha : a < 16) (hb : b < 16) (hc : c < 16) (hd : d < 16) (h1 : be a ≤ B) (h2 : be b ≤ B) (h3 : be c ≤ B) (h4 : be d ≤ B) (hB : 4 * B < 2147483648) :
    ∀ j, j < 16 → bd (if j = a ∨ j = b ∨ j = c ∨ j = d then 4 * B else be j) (trL f a b c d j) := by
  have Fa := bd_mono (h a ha) h1
  have Fb := bd_mono (h b hb) h2
  have Fc := bd_mono (h c hc) h3
  have Fd := bd_mono (h d hd) h4
  have hB0 : 0 ≤ B := by have := Fa.1; have := Fa.2; omega
  intro j hj
  unfold trL
  by_cases e4 : j = d
  · subst e4
    rw [pk_us, if_pos (by simp)]
    exact bd_mono (bd_sub (bd_add (bd_sub Fa Fb (by omega)) Fc (by omega)) Fd (by omega)) (by omega)
  · rw [pk_un e4]
    by_cases e3 : j = c
    · subst e3
      rw [pk_us, if_pos (by simp)]
      exact bd_mono (bd_add (bd_sub (bd_sub Fa Fb (by omega)) Fc (by omega)) Fd (by omega)) (by omega)
    · rw [pk_un e3]
      by_cases e2 : j = b
      · subst e2
        rw [pk_us, if_pos (by simp)]
        exact bd_mono (bd_sub (bd_sub (bd_add Fa Fb (by omega)) Fc (by omega)) Fd (by omega)) (by omega)
      · rw [pk_un e2]
        by_cases e1 : j = a
        · subst e1
          rw [pk_us, if_pos (by simp)]
          exact bd_mono (bd_add (bd_add (bd_add Fa Fb (by omega)) Fc (by omega)) Fd (by omega)) (by omega)
        · rw [pk_un e1, if_neg (by simp [e1, e2, e3, e4])]
          exact h j hj
theorem trR_bd {f : Nat → Int32} (h : ∀ j, j < 16 → bd 255 (f j)) : ∀ k, k ≤ 4 → ∀ j, j < 16 → bd (if j < 4 * k then 1020 else 255) (trR f k j)
  | 0, _ => fun j hj => by rw [if_neg (by omega)]; exact h j hj
  | k + 1, hk => by
    intro j hj
    have ih := trR_bd h k (by omega)
    have := trL_bd (B := 255) ih (a := k * 4) (b := k * 4 + 1) (c := k * 4 + 2) (d := k * 4 + 3) (by omega) (by omega) (by omega) (by omega) (by rw [if_neg (by omega)]; decide) (by rw [if_neg (by omega)]; decide) (by rw [if_neg (by omega)]; decide) (by rw [if_neg (by omega)]; decide) (by decide) j hj
    refine bd_mono this ?_
    by_cases e : j < 4 * k
    · rw [if_neg (by omega), if_pos e, if_pos (by omega)]; decide
    · by_cases e2 : j < 4 * (k + 1)
      · rw [if_pos (by omega), if_pos e2]; decide
      · rw [if_neg (by omega), if_neg e, if_neg e2]; decide
theorem trC_bd {f : Nat → Int32} (h : ∀ j, j < 16 → bd 1020 (f j)) : ∀ k, k ≤ 4 → ∀ j, j < 16 → bd (if j % 4 < k then 4080 else 1020) (trC f k j)
  | 0, _ => fun j hj => by rw [if_neg (by omega)]; exact h j hj
  | k + 1, hk => by
    intro j hj
    have ih := trC_bd h k (by omega)
    have := trL_bd (B := 1020) ih (a := k) (b := k + 4) (c := k + 8) (d := k + 12) (by omega) (by omega) (by omega) (by omega) (by rw [if_neg (by omega)]; decide) (by rw [if_neg (by omega)]; decide) (by rw [if_neg (by omega)]; decide) (by rw [if_neg (by omega)]; decide) (by decide) j hj
    refine bd_mono this ?_
    by_cases e : j % 4 < k
    · rw [if_neg (by omega), if_pos e, if_pos (by omega)]; decide
    · by_cases e2 : j % 4 < k + 1
      · rw [if_pos (by omega), if_pos e2]; decide
      · rw [if_neg (by omega), if_neg e, if_neg e2]; decide
theorem trT_bd {f : Nat → Int32} (h : ∀ j, j < 16 → bd 255 (f j)) : ∀ j, j < 16 → bd 4080 (trT f j) := by
  intro j hj
  have h1 : ∀ j, j < 16 → bd 1020 (trR f 4 j) := fun j hj => bd_mono (trR_bd h 4 (Nat.le_refl 4) j hj) (by split <;> decide)
  exact bd_mono (trC_bd h1 4 (Nat.le_refl 4) j hj) (by split <;> decide)
/-- a small number; a picture of small numbers -/
def sm (x : Int32) : Prop := ∃ n : Nat, n ≤ 255 ∧ x = nI n
def PR (f : Nat → Int32) : Prop := ∀ j, j < 144 → sm (f j)
theorem sm_clip (x : Int32) : sm (clip x) := by
  unfold clip
  by_cases h : 0 ≤ x
  · rw [if_pos h]
    by_cases h2 : x ≤ 255
    · rw [if_pos h2]
      obtain ⟨n, h3, h4⟩ := nI_of2 (x := x) (M := 255) (n := 255) rfl (Int32.not_lt.mpr h) h2
      exact ⟨n, h3, h4⟩
    · rw [if_neg h2]
      exact ⟨255, by decide, rfl⟩
  · rw [if_neg h]
    exact ⟨0, by decide, rfl⟩
theorem sm_bd {x y : Int32} (hx : sm x) (hy : sm y) : bd 255 (x - y) := by
  obtain ⟨a, h1, rfl⟩ := hx
  obtain ⟨b, h2, rfl⟩ := hy
  unfold bd
  rw [pk_sub_toInt (by omega) (by omega)]
  omega
theorem sm_div {n d : Nat} (hd : d = 4 ∨ d = 8) (hn : n ≤ 255 * d + d / 2) : sm (nI n / nI d) := by
  have h1 : nI n / nI d = nI (n / d) := pk_div (by rcases hd with rfl | rfl <;> omega) (by rcases hd with rfl | rfl <;> decide) (by rcases hd with rfl | rfl <;> decide)
  rw [h1]
  refine ⟨n / d, ?_, rfl⟩
  rcases hd with rfl | rfl <;> omega
theorem sm_mean {vr vc : Int32} {ab lf : Nat → Int32} (h1 : ∀ j, j < 4 → sm (ab j)) (h2 : ∀ j, j < 4 → sm (lf j)) : sm (meanB vr vc ab lf) := by
  obtain ⟨a0, p0, e0⟩ := h1 0 (by decide)
  obtain ⟨a1, p1, e1⟩ := h1 1 (by decide)
  obtain ⟨a2, p2, e2⟩ := h1 2 (by decide)
  obtain ⟨a3, p3, e3⟩ := h1 3 (by decide)
  obtain ⟨b0, q0, f0⟩ := h2 0 (by decide)
  obtain ⟨b1, q1, f1⟩ := h2 1 (by decide)
  obtain ⟨b2, q2, f2⟩ := h2 2 (by decide)
  obtain ⟨b3, q3, f3⟩ := h2 3 (by decide)
  unfold meanB
  rw [e0, e1, e2, e3, f0, f1, f2, f3]
  simp only [nI_add]
  split
  · split
    · exact ⟨128, by decide, rfl⟩
    · rw [show nI (b0 + b1 + b2 + b3) + 2 = nI (b0 + b1 + b2 + b3 + 2) from nI_add _ 2]
      exact sm_div (d := 4) (Or.inl rfl) (by omega)
  · split
    · rw [show nI (a0 + a1 + a2 + a3) + 2 = nI (a0 + a1 + a2 + a3 + 2) from nI_add _ 2]
      exact sm_div (d := 4) (Or.inl rfl) (by omega)
    · rw [show nI (a0 + a1 + a2 + a3 + (b0 + b1 + b2 + b3)) + 4 = nI (a0 + a1 + a2 + a3 + (b0 + b1 + b2 + b3) + 4) from nI_add _ 4]
      exact sm_div (d := 8) (Or.inr rfl) (by omega)
theorem sm_abv {px : Nat → Int32} (h : PR px) {x y j : Nat} (hx : x + 4 ≤ 12) (hy : y + 4 ≤ 12) (hj : j < 4) : sm (abv px x y j) := by
  unfold abv
  split
  · exact ⟨127, by decide, rfl⟩
  · exact h _ (by omega)
theorem sm_lft {px : Nat → Int32} (h : PR px) {x y j : Nat} (hx : x + 4 ≤ 12) (hy : y + 4 ≤ 12) (hj : j < 4) : sm (lft px x y j) := by
  unfold lft
  split
  · exact ⟨129, by decide, rfl⟩
  · exact h _ (by omega)
theorem sm_cbF {px : Nat → Int32} (h : PR px) {x y : Nat} {way : Int32} {j : Nat} (hx : x + 4 ≤ 12) (hy : y + 4 ≤ 12) (hj : j < 16) : sm (cbF px x y way j) := by
  unfold cbF foreB
  split
  · exact sm_mean (fun j hj => sm_abv h hx hy hj) (fun j hj => sm_lft h hx hy hj)
  · split
    · exact sm_abv h hx hy (by omega)
    · split
      · exact sm_lft h hx hy (by omega)
      · exact sm_clip _
theorem PR_putF {px : Nat → Int32} (h : PR px) {x y : Nat} {v : Nat → Int32} (hv : ∀ j, sm (v j)) : ∀ k, PR (putF px x y v k)
  | 0 => h
  | k + 1 => by
    intro j hj
    rw [putF]
    by_cases e : j = (y + k / 4) * 12 + (x + k % 4)
    · rw [e, pk_us]; exact hv k
    · rw [pk_un e]; exact PR_putF h hv k j hj
theorem PR_cbP {po px : Nat → Int32} (h : PR px) {x y : Nat} {q : Int32} : PR (cbP po px x y q) := PR_putF h (fun _ => sm_clip _) 16
theorem PR_rbP {px fo lv : Nat → Int32} (h : PR px) {x y : Nat} {q : Int32} : PR (rbP px x y fo lv q) := PR_putF h (fun _ => sm_clip _) 16
theorem coar_nI {q : Int32} (h : coarP q) : ∃ k : Nat, k ≤ 5 ∧ q = nI k := nI_of2 (x := q) (M := 5) (n := 5) rfl h.1 (Int32.not_lt.mp h.2)
theorem shl1 : ∀ k, k ≤ 5 → (1 : Int32) <<< (nI k &&& 31) = nI (2 ^ k) := by decide
theorem absN {c : Int32} {B : Nat} (h : bd B c) (hB : B < 2147483648) : ∃ n : Nat, n ≤ B ∧ (if 0 ≤ c then c else 0 - c) = nI n ∧ (c.toInt = n ∨ c.toInt = -(n : Int)) ∧ (0 ≤ c → c.toInt = n) ∧ (¬ 0 ≤ c → c.toInt = -(n : Int)) := by
  have h1 := h.1; have h2 := h.2
  by_cases h0 : 0 ≤ c
  · have h3 : 0 ≤ c.toInt := by simpa using Int32.le_iff_toInt_le.mp h0
    refine ⟨c.toInt.toNat, by omega, ?_, Or.inl (by omega), fun _ => by omega, fun h => absurd h0 h⟩
    rw [if_pos h0]
    apply Int32.toInt_inj.mp
    rw [nI_toInt (by omega)]
    omega
  · have h3 : c.toInt < 0 := by
      have := Int32.not_le.mp h0
      simpa using Int32.lt_iff_toInt_lt.mp this
    refine ⟨(-c.toInt).toNat, by omega, ?_, Or.inr (by omega), fun h => absurd h h0, fun _ => by omega⟩
    rw [if_neg h0]
    apply Int32.toInt_inj.mp
    have h4 : bd 0 (0 : Int32) := ⟨by decide, by decide⟩
    rw [nI_toInt (by omega), i32_sub h4 h (by omega)]
    have : (0 : Int32).toInt = 0 := by decide
    omega
theorem lvQ_bd {q c : Int32} (hq : coarP q) (hc : bd 4080 c) : bd 4080 (lvQ q c) := by
  obtain ⟨k, hk, rfl⟩ := coar_nI hq
  obtain ⟨n, hn, e, -, -, -⟩ := absN (B := 4080) hc (by decide)
  have key : ∃ m : Nat, m ≤ 4080 ∧ ((if 0 ≤ c then c else 0 - c) + (1 <<< (nI k &&& 31)) / 2) >>> (nI k &&& 31) = nI m := by
    rw [e, shl1 k hk, show nI (2 ^ k) / 2 = nI (2 ^ k / 2) from pk_div (a := 2 ^ k) (d := 2) (by have : 2 ^ k ≤ 2 ^ 5 := Nat.pow_le_pow_right (by decide) hk; omega) (by decide) (by decide), nI_add, cs_shr (by omega) (by have : 2 ^ k ≤ 2 ^ 5 := Nat.pow_le_pow_right (by decide) hk; omega)]
    refine ⟨_, ?_, rfl⟩
    have h6 : k = 0 ∨ k = 1 ∨ k = 2 ∨ k = 3 ∨ k = 4 ∨ k = 5 := by omega
    rcases h6 with rfl | rfl | rfl | rfl | rfl | rfl <;> simp <;> omega
  obtain ⟨m, hm, e2⟩ := key
  unfold lvQ
  rw [e2]
  have h7 : bd 4080 (nI m) := by
    unfold bd
    rw [nI_toInt (by omega)]
    omega
  split
  · exact h7
  · unfold bd
    rw [sb_negT (by omega)]
    omega
theorem uJ_ok {c : Int32} (hc : bd 4080 c) : uJ c = nI (uN c) ∧ uN c ≤ 8190 := by
  have h1 := hc.1; have h2 := hc.2
  have h3 : 0 ≤ (uJ c).toInt ∧ (uJ c).toInt ≤ 8160 := by
    unfold uJ
    split
    · rename_i h
      have h4 : c.toInt ≤ 0 := by simpa using Int32.le_iff_toInt_le.mp h
      rw [Int32.toInt_mul, show (-2 : Int32).toInt = -2 from rfl, Int.bmod_eq_of_le (by omega) (by omega)]
      omega
    · rename_i h
      have h4 : 0 < c.toInt := by
        have := Int32.not_le.mp h
        simpa using Int32.lt_iff_toInt_lt.mp this
      have h5 : (2 * c).toInt = 2 * c.toInt := by
        rw [Int32.toInt_mul, show (2 : Int32).toInt = 2 from rfl, Int.bmod_eq_of_le (by omega) (by omega)]
      have h6 : bd 8160 (2 * c) := ⟨by omega, by omega⟩
      have h7 : bd 1 (1 : Int32) := ⟨by decide, by decide⟩
      rw [i32_sub h6 h7 (by decide), h5]
      have : (1 : Int32).toInt = 1 := rfl
      omega
  have h8 : uN c = (uJ c).toInt.toNat := rfl
  refine ⟨Int32.toInt_inj.mp ?_, by omega⟩
  rw [nI_toInt (by omega)]
  omega
theorem lev_ok {po pd : Nat → Int32} (h1 : PR po) (h2 : PR pd) {x y : Nat} {q : Int32} (hx : x + 4 ≤ 12) (hy : y + 4 ≤ 12) (hq : coarP q) : ∀ j, j < 16 → uJ (cbL po pd x y q j) = nI (uN (cbL po pd x y q j)) ∧ uN (cbL po pd x y q j) ≤ 8190 := by
  intro j hj
  refine uJ_ok ?_
  unfold cbL
  exact lvQ_bd hq (trT_bd (fun j hj => sm_bd (h1 _ (by omega)) (sm_cbF h2 hx hy hj)) j hj)
