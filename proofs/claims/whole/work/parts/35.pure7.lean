/-! how far pictures are apart: whole numbers in doubles -/
theorem vf_of {r : UInt64} (h : FP.Core.dIsNaN r = false) : vf_n64 r := by
  have h1 : ¬ 9218868437227405312 < r.toNat % 2 ^ 63 := fun q => by
    have := (FP.Core.isNaN_bits r).mpr q
    rw [h] at this
    cases this
  unfold vf_n64
  rw [UInt64.le_iff_toNat_le, UInt64.toNat_and, show (0x7fffffffffffffff : UInt64).toNat = 2 ^ 63 - 1 from rfl, Nat.and_two_pow_sub_one_eq_mod, show (0x7ff0000000000000 : UInt64).toNat = 9218868437227405312 from rfl]
  omega
theorem vf_add (a b : Int32) : vf_n64 (FP.dadd (FP.i2d a) (FP.i2d b)) := vf_of (FP.Core.dadd_out (FP.Core.i2d_fin a).notNaN (FP.Core.i2d_fin b))
theorem dadd_nI {a b : Nat} (h : a + b < 1000000000) : FP.dadd (FP.i2d (nI a)) (FP.i2d (nI b)) = FP.i2d (nI (a + b)) := by
  have e1 : ∀ n : Nat, n < 1000000000 → (nI n).toInt64.toInt = n := fun n hn => by rw [Int32.toInt_toInt64, nI_toInt (by omega)]
  show FP.Core.dadd (FP.Core.i2d (nI a)) (FP.Core.i2d (nI b)) = FP.Core.i2d (nI (a + b))
  rw [FP.Core.i2d_l2d, FP.Core.i2d_l2d, FP.Core.i2d_l2d, FP.Core.dadd_l2d (by unfold FP.Core.Small53; rw [e1 a (by omega)]; omega) (by unfold FP.Core.Small53; rw [e1 b (by omega)]; omega)]
  congr 1
  apply Int64.toInt_inj.mp
  rw [FP.Core.int64_add (by rw [e1 a (by omega), e1 b (by omega)]; omega) (by rw [e1 a (by omega), e1 b (by omega)]; omega), e1 a (by omega), e1 b (by omega), e1 (a + b) h]
  omega
def apX (f g : Nat → Int32) (y : Nat) : Nat → Int32
  | 0 => 0
  | i + 1 => apX f g y i + (f (y * 12 + i) - g (y * 12 + i)) * (f (y * 12 + i) - g (y * 12 + i))
def apY (f g : Nat → Int32) (W : Nat) : Nat → Int32
  | 0 => 0
  | j + 1 => apY f g W j + apX f g j W
theorem sm_sq {x y : Int32} (hx : sm x) (hy : sm y) : ∃ n : Nat, n ≤ 65025 ∧ (x - y) * (x - y) = nI n := by
  have h := sm_bd hx hy
  have h1 := h.1; have h2 := h.2
  have h3 : (x - y).toInt * (x - y).toInt ≤ 65025 := by
    generalize (x - y).toInt = z at h1 h2
    have h4 : z.natAbs ≤ 255 := by omega
    have h5 : z.natAbs * z.natAbs ≤ 255 * 255 := Nat.mul_le_mul h4 h4
    have h6 : ((z.natAbs * z.natAbs : Nat) : Int) = z * z := Int.natAbs_mul_self
    omega
  have h0 : 0 ≤ (x - y).toInt * (x - y).toInt := by
    generalize (x - y).toInt = z
    have h6 : ((z.natAbs * z.natAbs : Nat) : Int) = z * z := Int.natAbs_mul_self
    omega
  refine ⟨((x - y).toInt * (x - y).toInt).toNat, by omega, Int32.toInt_inj.mp ?_⟩
  rw [nI_toInt (by omega), Int32.toInt_mul, Int.bmod_eq_of_le (by omega) (by omega)]
  omega
theorem apX_b {f g : Nat → Int32} (hf : PR f) (hg : PR g) {y : Nat} (hy : y < 12) : ∀ i, i ≤ 12 → ∃ n : Nat, n ≤ i * 65025 ∧ apX f g y i = nI n
  | 0, _ => ⟨0, by omega, rfl⟩
  | i + 1, hi => by
    obtain ⟨n, h1, h2⟩ := apX_b hf hg hy i (by omega)
    obtain ⟨k, h3, h4⟩ := sm_sq (hf (y * 12 + i) (by omega)) (hg (y * 12 + i) (by omega))
    exact ⟨n + k, by omega, by rw [apX, h2, h4, nI_add]⟩
theorem apY_b {f g : Nat → Int32} (hf : PR f) (hg : PR g) {W : Nat} (hW : W ≤ 12) : ∀ j, j ≤ 12 → ∃ n : Nat, n ≤ j * 780300 ∧ apY f g W j = nI n
  | 0, _ => ⟨0, by omega, rfl⟩
  | j + 1, hj => by
    obtain ⟨n, h1, h2⟩ := apY_b hf hg hW j (by omega)
    obtain ⟨k, h3, h4⟩ := apX_b hf hg (show j < 12 by omega) W hW
    exact ⟨n + k, by omega, by rw [apY, h2, h4, nI_add]⟩
theorem ap_step {f g : Nat → Int32} (hf : PR f) (hg : PR g) {W jj ii : Nat} (hW : W ≤ 12) (hj : jj < 12) (hi : ii < W) : FP.dadd (FP.i2d (apY f g W jj + apX f g jj ii)) (FP.i2d ((f (jj * 12 + ii) - g (jj * 12 + ii)) * (f (jj * 12 + ii) - g (jj * 12 + ii)))) = FP.i2d (apY f g W jj + apX f g jj (ii + 1)) := by
  obtain ⟨a, h1, h2⟩ := apY_b hf hg hW jj (by omega)
  obtain ⟨b, h3, h4⟩ := apX_b hf hg hj ii (by omega)
  obtain ⟨c, h5, h6⟩ := sm_sq (hf (jj * 12 + ii) (by omega)) (hg (jj * 12 + ii) (by omega))
  rw [apX, h2, h4, h6, nI_add, dadd_nI (by omega), nI_add b c, nI_add a (b + c), Nat.add_assoc]
theorem i2d_nz {n : Nat} (h0 : 0 < n) (h : n < 1000) : ¬ FP.Core.DZero (FP.Core.i2d (nI n)) := by
  rw [FP.Core.i2d_l2d]
  intro hz
  have hw := FP.Core.l2d_whole (a := (nI n).toInt64) (by unfold FP.Core.Small53; rw [Int32.toInt_toInt64, nI_toInt (by omega)]; omega)
  rw [Int32.toInt_toInt64, nI_toInt (by omega)] at hw
  obtain ⟨s, q, e⟩ := hz
  rw [e] at hw
  have hw2 : FP.Core.signed s (0 * 2 ^ q.toNat) = (n : Int) * ((2 ^ (-q).toNat : Nat) : Int) := hw
  rw [Nat.zero_mul, FP.Core.signed_zero] at hw2
  exact absurd hw2.symm (Int.ne_of_gt (Int.mul_pos (by omega) (Int.natCast_pos.mpr (Nat.two_pow_pos _))))
theorem vf_div (a : Int32) {n : Nat} (h0 : 0 < n) (h : n < 1000) : vf_n64 (FP.ddiv (FP.i2d a) (FP.i2d (nI n))) := vf_of (FP.Core.ddiv_out (FP.Core.i2d_fin a).notNaN (FP.Core.i2d_fin _) (i2d_nz h0 h))
theorem i2d_0 : (0 : UInt64) = FP.i2d 0 := by
  show (0 : UInt64) = FP.Core.i2d 0
  rw [FP.Core.i2d_l2d]
  exact FP.Core.l2d_zero.symm
