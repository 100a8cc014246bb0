/-! a whole picture coded, a whole row read: block by block -/
abbrev MD : Type := (Nat → Int32) × (Nat → Int32) × CS
def md1 (po : Nat → Int32) (cw : Nat) (q : Int32) (b : Nat) (st : MD) : MD := match st with
  | (pd, md, cs) => (cbP po pd (4 * (b % cw)) (4 * (b / cw)) q, upd md b (nI (cbB po pd (4 * (b % cw)) (4 * (b / cw)))), cbS po pd (4 * (b % cw)) (4 * (b / cw)) q cs)
def mdS (po : Nat → Int32) (cw : Nat) (q : Int32) (st : MD) : Nat → MD
  | 0 => st
  | b + 1 => md1 po cw q b (mdS po cw q st b)
def grey (x y : Nat) (st : RD) : RD := match st with
  | (e, q, s, n, s2, n2, lv, px, md, kn, bo) => (e, q, s, n, s2, n2, lv, putF px x y (fun _ => 128) 16, md, kn, bo)
def ri1 (f : Nat → Int32) (L cw b : Nat) (st : RD) : RD :=
  if st.1 = 0 then (if (rb1 f L (4 * (b % cw)) (4 * (b / cw)) st).1 = 0 then rb1 f L (4 * (b % cw)) (4 * (b / cw)) st else grey (4 * (b % cw)) (4 * (b / cw)) (rb1 f L (4 * (b % cw)) (4 * (b / cw)) st))
  else grey (4 * (b % cw)) (4 * (b / cw)) st
def riS (f : Nat → Int32) (L cw : Nat) (st : RD) : Nat → RD
  | 0 => st
  | b + 1 => ri1 f L cw b (riS f L cw st b)
theorem wlF_le (lv : Nat → Int32) : ∀ (k i : Nat) (st : CS), (wlF lv k i st).2.1 ≤ st.2.1 + 26 * k
  | 0, _, _ => Nat.le_refl _
  | k + 1, i, (f, n, s, sn, s2, sn2, nz, gr) => by
    have h1 := wrU_le (uN (lv i)) (lcK i s sn s2 sn2) f n (lcK_le i s sn s2 sn2)
    have h2 := wlF_le lv k (i + 1) (wl1 i (lv i) (f, n, s, sn, s2, sn2, nz, gr))
    rw [wlF]
    have h3 : (wl1 i (lv i) (f, n, s, sn, s2, sn2, nz, gr)).2.1 = (wrU (uN (lv i)) (lcK i s sn s2 sn2) f n).2 := rfl
    show _ ≤ n + 26 * (k + 1)
    omega
theorem cbS_le (po pd : Nat → Int32) (x y : Nat) (q : Int32) (f : Nat → Int32) (n : Nat) (r : Int32 × Int32 × Int32 × Int32 × Int32 × Int32) : (cbS po pd x y q (f, n, r)).2.1 ≤ n + 423 := by
  have h1 := upTo_le (cbL po pd x y q) 16
  have h2 := wlF_le (cbL po pd x y q) (upTo (cbL po pd x y q) 16) 0 (wrF (nI (upTo (cbL po pd x y q) 16)) 5 (wrF (nI (cbB po pd x y)) 2 f n) (n + 2), n + 2 + 5, r)
  have h3 : (cbS po pd x y q (f, n, r)) = wlF (cbL po pd x y q) (upTo (cbL po pd x y q) 16) 0 (wrF (nI (upTo (cbL po pd x y q) 16)) 5 (wrF (nI (cbB po pd x y)) 2 f n) (n + 2), n + 2 + 5, r) := rfl
  rw [h3]
  have h4 : ((wrF (nI (upTo (cbL po pd x y q) 16)) 5 (wrF (nI (cbB po pd x y)) 2 f n) (n + 2), n + 2 + 5, r) : CS).2.1 = n + 2 + 5 := rfl
  omega
theorem cs_b9 {cy cx ch cw : Nat} (h1 : cy < ch) (h2 : ch ≤ 3) (h3 : cx < cw) (h4 : cw ≤ 3) : cy * cw + cx < 9 := by
  have h5 : cy * cw ≤ 2 * cw := Nat.mul_le_mul_right cw (by omega)
  omega
theorem cs_bm {cy cx cw : Nat} (h : cx < cw) : (cy * cw + cx) % cw = cx := by rw [Nat.mul_comm, Nat.mul_add_mod]; exact Nat.mod_eq_of_lt h
theorem cs_bd {cy cx cw : Nat} (h : cx < cw) : (cy * cw + cx) / cw = cy := by
  rw [Nat.mul_comm, Nat.mul_add_div (by omega), Nat.div_eq_of_lt h, Nat.add_zero]
theorem cs_i4 (b : Nat) : nI (4 * b) + Int32.ofInt 4 = nI (4 * (b + 1)) := by
  rw [show nI (4 * (b + 1)) = nI (4 * b + 4) from rfl]
  exact nI_add (4 * b) 4
theorem cs_m4 (n : Nat) : nI n * 4 = nI (4 * n) := by
  rw [show nI n * 4 = nI (n * 4) from pk_mul n 4, Nat.mul_comm]
theorem cs_d4 {n : Nat} (h : n ≤ 3) : nI (4 * n) / 4 = nI n := by
  rw [show nI (4 * n) / 4 = nI (4 * n / 4) from pk_div (a := 4 * n) (d := 4) (by omega) (by decide) (by decide)]
  congr 1
  omega
theorem rlF_le (f : Nat → Int32) (L : Nat) (xl : Int32) : ∀ (k i : Nat) (st : RS), (rlF f L xl k i st).2.1 ≤ st.1 + 26 * k
  | 0, _, _ => Nat.le_refl _
  | k + 1, i, (q, s, n, s2, n2, lv) => by
    have h1 := rdU_le f L i s n s2 n2 q
    rw [rlF]
    show _ ≤ q + 26 * (k + 1)
    split
    · have h2 := rlF_le f L xl k (i + 1) (q, s, n, s2, n2, upd lv i (lvOf 0))
      have h3 : ((q, s, n, s2, n2, upd lv i (lvOf 0)) : RS).1 = q := rfl
      omega
    · split
      · show (rdU f L i s n s2 n2 q).2.1 ≤ _; omega
      · split
        · have h2 := rlF_le f L xl k (i + 1) ((rdU f L i s n s2 n2 q).2.1, (rdU f L i s n s2 n2 q).2.2.1, (rdU f L i s n s2 n2 q).2.2.2.1, (rdU f L i s n s2 n2 q).2.2.2.2.1, (rdU f L i s n s2 n2 q).2.2.2.2.2, upd lv i (lvOf (rdU f L i s n s2 n2 q).1))
          have h3 : (((rdU f L i s n s2 n2 q).2.1, (rdU f L i s n s2 n2 q).2.2.1, (rdU f L i s n s2 n2 q).2.2.2.1, (rdU f L i s n s2 n2 q).2.2.2.2.1, (rdU f L i s n s2 n2 q).2.2.2.2.2, upd lv i (lvOf (rdU f L i s n s2 n2 q).1)) : RS).1 = (rdU f L i s n s2 n2 q).2.1 := rfl
          omega
        · show (rdU f L i s n s2 n2 q).2.1 ≤ _; omega
theorem rlS_le (f : Nat → Int32) (L q : Nat) (r : Int32 × Int32 × Int32 × Int32 × (Nat → Int32)) : (rlS f L (q, r)).2.1 ≤ q + 421 := by
  have h1 := rdB_le f L 5 q 0
  have h2 := rlF_le f L (rdB f L 5 q 0).1 16 0 ((rdB f L 5 q 0).2, r)
  have h3 : (((rdB f L 5 q 0).2, r) : RS).1 = (rdB f L 5 q 0).2 := rfl
  unfold rlS
  show (ite _ _ _ : Int32 × RS).2.1 ≤ _
  split
  · show (rdB f L 5 q 0).2 ≤ _; omega
  · split
    · omega
    · show (rdB f L 5 q 0).2 ≤ _; omega
theorem rb1_le (f : Nat → Int32) (L x y : Nat) (e : Int32) (q : Nat) (s n s2 n2 : Int32) (lv px md : Nat → Int32) (kn : Nat) (bo : Int32) :
    (rb1 f L x y (e, q, s, n, s2, n2, lv, px, md, kn, bo)).2.1 ≤ q + 423 ∧ (rb1 f L x y (e, q, s, n, s2, n2, lv, px, md, kn, bo)).2.2.2.2.2.2.2.2.2.1 ≤ kn + 1 := by
  have h1 := rdB_le f L 2 q 0
  have h2 := rlS_le f L (rdB f L 2 q 0).2 (s, n, s2, n2, lv)
  unfold rb1
  show (ite _ _ _ : RD).2.1 ≤ _ ∧ (ite _ _ _ : RD).2.2.2.2.2.2.2.2.2.1 ≤ _
  split
  · exact ⟨by show (rdB f L 2 q 0).2 ≤ _; omega, by show kn ≤ _; omega⟩
  · generalize rlS f L ((rdB f L 2 q 0).2, s, n, s2, n2, lv) = z at h2 ⊢
    obtain ⟨xe, xq, xs, xn, xs2, xn2, xlv⟩ := z
    have h3 : xq ≤ (rdB f L 2 q 0).2 + 421 := h2
    unfold rb2
    show (ite _ _ _ : RD).2.1 ≤ _ ∧ (ite _ _ _ : RD).2.2.2.2.2.2.2.2.2.1 ≤ _
    split
    · exact ⟨by show xq ≤ _; omega, by show kn + 1 ≤ _; omega⟩
    · exact ⟨by show xq ≤ _; omega, by show kn ≤ _; omega⟩
