/-! reading on both sides: bits, ones, a level's number -/
theorem bitAt_ag {f g : Nat → Int32} {L q : Nat} (h : ∀ j, j < L → f j = g j) (hq : q / 8 < L) : bitAt f q = bitAt g q := by
  unfold bitAt
  rw [h _ hq]
theorem bitAt01 (f : Nat → Int32) (q : Nat) : ∃ b : Nat, b ≤ 1 ∧ bitAt f q = nI b := by
  rcases bit01 (f (q / 8) >>> ((7 - nI (q % 8)) &&& 31)) with e | e
  · exact ⟨0, by decide, e⟩
  · exact ⟨1, by decide, e⟩
theorem rd_bits {f g : Nat → Int32} {L : Nat} (h : ∀ j, j < L → f j = g j) : ∀ (k q a : Nat), q ≤ 8 * L → (a + 1) * 2 ^ k ≤ 1048576 →
    (∃ c : Nat, c < (a + 1) * 2 ^ k ∧ q + k ≤ 8 * L ∧ tkF g (8 * L) k q (nI a) = (nI c, q + k, 0) ∧ rdB f L k q (nI a) = (nI c, q + k)) ∨ (∃ q' : Nat, q' ≤ 8 * L ∧ tkF g (8 * L) k q (nI a) = (0, q', 1) ∧ rdB f L k q (nI a) = (-1, q'))
  | 0, q, a, hq, _ => Or.inl ⟨a, by omega, hq, rfl, rfl⟩
  | k + 1, q, a, hq, hk => by
    have h2k : 0 < 2 ^ k := Nat.two_pow_pos k
    rw [tkF, rdB]
    by_cases e : q = 8 * L
    · rw [if_pos e, if_neg (by omega)]
      exact Or.inr ⟨q, hq, rfl, rfl⟩
    · have hq8 : q / 8 < L := by omega
      rw [if_neg e, if_pos hq8]
      unfold rdQ rdR
      rw [if_pos hq8, if_pos hq8, bitAt_ag h hq8]
      obtain ⟨b, hb, eb⟩ := bitAt01 g q
      have e1 : 2 * nI a + bitAt g q = nI (2 * a + b) := by rw [eb, show (2 : Int32) * nI a = nI (2 * a) from pk_mul 2 a, nI_add]
      have e2 : nI a * 2 + bitAt g q = nI (2 * a + b) := by rw [eb, show nI a * 2 = nI (a * 2) from pk_mul a 2, nI_add, Nat.mul_comm]
      rw [e1, e2]
      have h3 : (2 * a + b + 1) * 2 ^ k ≤ (a + 1) * 2 ^ (k + 1) := by
        rw [Nat.pow_succ, Nat.mul_comm (2 ^ k) 2, ← Nat.mul_assoc]
        exact Nat.mul_le_mul_right _ (by omega)
      rcases rd_bits h k (q + 1) (2 * a + b) (by omega) (Nat.le_trans h3 hk) with ⟨c, c1, c2, c3, c4⟩ | r
      · exact Or.inl ⟨c, Nat.lt_of_lt_of_le c1 h3, by omega, by rw [c3, show q + 1 + k = q + (k + 1) by omega], by rw [c4, show q + 1 + k = q + (k + 1) by omega]⟩
      · exact Or.inr r
theorem rd_bits0 {f g : Nat → Int32} {L : Nat} (h : ∀ j, j < L → f j = g j) {k q : Nat} (hq : q ≤ 8 * L) (hk : k ≤ 14) :
    (∃ c q' : Nat, c < 2 ^ k ∧ c < 16384 ∧ q' ≤ 8 * L ∧ tkS g (8 * L) k q 0 = (nI c, q', 0) ∧ rdB f L k q 0 = (nI c, q')) ∨ (∃ q' : Nat, q' ≤ 8 * L ∧ tkS g (8 * L) k q 0 = (0, q', 1) ∧ rdB f L k q 0 = (-1, q')) := by
  have hp : 2 ^ k ≤ 2 ^ 14 := Nat.pow_le_pow_right (by decide) hk
  have e : tkS g (8 * L) k q 0 = tkF g (8 * L) k q 0 := if_pos rfl
  rw [e]
  rcases rd_bits h k q 0 hq (by omega) with ⟨c, c1, c2, c3, c4⟩ | r
  · exact Or.inl ⟨c, q + k, by omega, by omega, c2, c3, c4⟩
  · exact Or.inr r
theorem rd_ones {f g : Nat → Int32} {L : Nat} (h : ∀ j, j < L → f j = g j) : ∀ (k o q : Nat), q ≤ 8 * L →
    (∃ o' q' : Nat, o' ≤ o + k ∧ q' ≤ 8 * L ∧ toF g (8 * L) k o q 0 = (o', q', 0) ∧ rdO f L k o q = (nI o', q')) ∨ (∃ o' q' : Nat, q' ≤ 8 * L ∧ toF g (8 * L) k o q 0 = (o', q', 1) ∧ rdO f L k o q = (-1, q'))
  | 0, o, q, hq => Or.inl ⟨o, q, by omega, hq, rfl, rfl⟩
  | k + 1, o, q, hq => by
    rw [toF, rdO]
    have e0 : tkS g (8 * L) 1 q 0 = tkF g (8 * L) 1 q 0 := if_pos rfl
    rw [e0, tkF]
    by_cases e : q = 8 * L
    · rw [if_pos e, if_neg (show ¬ q / 8 < L by omega)]
      rw [if_neg (show ¬ ((0, q, 1) : Int32 × Nat × Int32).1 = 1 from by show ¬ (0 : Int32) = 1; decide)]
      exact Or.inr ⟨o, q, hq, rfl, rfl⟩
    · have hq8 : q / 8 < L := by omega
      rw [if_neg e, if_pos hq8]
      unfold rdQ rdR
      rw [if_pos hq8, if_pos hq8, bitAt_ag h hq8]
      have e3 : tkF g (8 * L) 0 (q + 1) (2 * 0 + bitAt g q) = (bitAt g q, q + 1, 0) := by rw [tkF, show (2 : Int32) * 0 + bitAt g q = 0 + bitAt g q from rfl, Int32.zero_add]
      rw [e3]
      obtain ⟨b, hb, eb⟩ := bitAt01 g q
      rcases (show b = 0 ∨ b = 1 by omega) with rfl | rfl
      · have z : bitAt g q = 0 := eb
        rw [z, if_pos rfl, if_neg (show ¬ ((0, q + 1, 0) : Int32 × Nat × Int32).1 = 1 from by show ¬ (0 : Int32) = 1; decide)]
        exact Or.inl ⟨o, q + 1, by omega, by omega, rfl, rfl⟩
      · have z : bitAt g q = 1 := eb
        rw [z, if_neg (show ¬ (1 : Int32) = 0 by decide), if_pos (show ((1, q + 1, 0) : Int32 × Nat × Int32).1 = 1 from rfl)]
        rcases rd_ones h k (o + 1) (q + 1) (by omega) with ⟨o', q', c1, c2, c3, c4⟩ | r
        · exact Or.inl ⟨o', q', by omega, c2, c3, c4⟩
        · exact Or.inr r
theorem nI_nm1 {c : Nat} (h : c < 2 ^ 31) : ¬ nI c = -1 := cs_nm1 h
theorem shlN {o k : Nat} (ho : o < 12) (hk : k ≤ 10) : nI o <<< (nI k &&& 31) = nI (o * 2 ^ k) := by
  rw [← mul_shl, show (1 : Int32) <<< (nI k &&& 31) = nI (2 ^ k) from (show ∀ k, k ≤ 10 → (1 : Int32) <<< (nI k &&& 31) = nI (2 ^ k) by decide) k hk, pk_mul]
def LR (ix : Nat) (s n s2 n2 : Int32) (su mn : Nat → Int32) : Prop := su 0 = s ∧ mn 0 = n ∧ su 1 = s2 ∧ mn 1 = n2 ∧ cnt16 n ∧ cnt16 n2
theorem rd_level {f g : Nat → Int32} {L : Nat} (h : ∀ j, j < L → f j = g j) {ix q : Nat} {s n s2 n2 : Int32} {su mn : Nat → Int32} (hq : q ≤ 8 * L) (hR : LR ix s n s2 n2 su mn) :
    (∃ (u : Int32) (q' : Nat) (s' n' s2' n2' : Int32) (su' mn' : Nat → Int32), ¬ u = -1 ∧ u ≤ 8190 ∧ q' ≤ 8 * L ∧ rdU f L ix s n s2 n2 q = (u, q', s', n', s2', n2') ∧ tuS g (8 * L) (ctG ix) su mn q 0 = (lvOf u, q', 0, su', mn') ∧ LR ix s' n' s2' n2' su' mn') ∨
    (∃ (u : Int32) (q' : Nat) (r : Int32 × Int32 × Int32 × Int32), ¬ u = -1 ∧ ¬ u ≤ 8190 ∧ q' ≤ 8 * L ∧ rdU f L ix s n s2 n2 q = (u, q', r) ∧ tuS g (8 * L) (ctG ix) su mn q 0 = (0, q', 2, su, mn)) ∨
    (∃ (q' : Nat) (r : Int32 × Int32 × Int32 × Int32), q' ≤ 8 * L ∧ rdU f L ix s n s2 n2 q = (-1, q', r) ∧ tuS g (8 * L) (ctG ix) su mn q 0 = (0, q', 1, su, mn)) := by
  obtain ⟨r1, r2, r3, r4, r5, r6⟩ := hR
  have hK : lcK ix s n s2 n2 = lowK (mn (ctG ix)) (su (ctG ix)) := by
    unfold lcK ctG
    by_cases c : ix = 0
    · rw [if_pos c, if_pos c, r1, r2]
    · rw [if_neg c, if_neg c, r3, r4]
  have hK10 := lowK_le (mn (ctG ix)) (su (ctG ix))
  rcases rd_ones h 12 0 q hq with ⟨o, q1, o1, o2, o3, o4⟩ | ⟨o, q1, o2, o3, o4⟩
  · -- the ones came
    have ho : nI o = 12 ↔ o = 12 := nI_eq (a := o) (b := 12) (by omega) (by decide)
    have hn1 : ¬ nI o = -1 := nI_nm1 (by omega)
    have hkk : (if nI o = 12 then 14 else lcK ix s n s2 n2) = (if o = 12 then 14 else lowK (mn (ctG ix)) (su (ctG ix))) := by
      rw [hK]
      by_cases c : o = 12
      · rw [if_pos c, if_pos (ho.mpr c)]
      · rw [if_neg c, if_neg (fun q => c (ho.mp q))]
    have hk14 : (if o = 12 then 14 else lowK (mn (ctG ix)) (su (ctG ix))) ≤ 14 := by split <;> omega
    have eR : tuR g (8 * L) (ctG ix) su mn q 0 = tkS g (8 * L) (if o = 12 then 14 else lowK (mn (ctG ix)) (su (ctG ix))) q1 0 := by unfold tuR; rw [o3]
    rcases rd_bits0 h (q := q1) o2 hk14 with ⟨c, q2, c1, c1', c2, c3, c4⟩ | ⟨q2, c2, c3, c4⟩
    · -- the number came
      have eU : tuU g (8 * L) (ctG ix) su mn q 0 = (if o = 12 then nI c else (nI o <<< (nI (lowK (mn (ctG ix)) (su (ctG ix))) &&& 31)) + nI c) := by unfold tuU; rw [eR, c3, o3]
      have eT : tuT g (8 * L) (ctG ix) su mn q 0 = (if (if o = 12 then nI c else (nI o <<< (nI (lowK (mn (ctG ix)) (su (ctG ix))) &&& 31)) + nI c) ≤ 8190 then 0 else 2) := by unfold tuT; rw [eU, eR, c3]; exact if_pos rfl
      have hu : ∃ d : Nat, d < 100000 ∧ (if o = 12 then nI c else (nI o <<< (nI (lowK (mn (ctG ix)) (su (ctG ix))) &&& 31)) + nI c) = nI d := by
        by_cases e : o = 12
        · rw [if_pos e]; exact ⟨c, by omega, rfl⟩
        · rw [if_neg e, shlN (by omega) hK10, nI_add]
          refine ⟨_, ?_, rfl⟩
          have : o * 2 ^ lowK (mn (ctG ix)) (su (ctG ix)) ≤ 11 * 2 ^ 10 := Nat.mul_le_mul (by omega) (Nat.pow_le_pow_right (by decide) hK10)
          omega
      obtain ⟨d, hd, ed⟩ := hu
      have eD : rdU f L ix s n s2 n2 q = (nI d, q2, (if ix = 0 then tlS s n (nI d) else s), (if ix = 0 then tlN n else n), (if ix = 0 then s2 else tlS s2 n2 (nI d)), (if ix = 0 then n2 else tlN n2)) := by
        have hd2 : (if nI o = 12 then (rdB f L 14 q1 0).1 else (nI o <<< (nI (lcK ix s n s2 n2) &&& 31)) + (rdB f L (lcK ix s n s2 n2) q1 0).1) = nI d := by
          rw [← ed]
          by_cases e : o = 12
          · rw [if_pos e, if_pos (ho.mpr e)]; rw [if_pos e] at c4; rw [c4]
          · rw [if_neg e, if_neg (fun q => e (ho.mp q)), hK]; rw [if_neg e] at c4; rw [c4]
        unfold rdU
        rw [o4]
        simp only []
        rw [if_neg hn1, hkk, c4]
        simp only []
        rw [if_neg (nI_nm1 (by omega)), hd2]
      rw [eD]
      unfold tuS
      rw [eT, eU, eR, c3, ed]
      by_cases w : nI d ≤ 8190
      · rw [if_pos w, if_pos (show (0 : Int32) ≤ 0 by decide)]
        refine Or.inl ⟨nI d, q2, _, _, _, _, _, _, nI_nm1 (by omega), w, c2, rfl, rfl, ?_⟩
        unfold ctG LR
        by_cases z : ix = 0
        · simp only [if_pos z]
          obtain ⟨t1, t2, t3⟩ := tl_lr (s := s) (u := nI d) r5
          refine ⟨?_, ?_, ?_, ?_, t3, r6⟩
          · rw [pk_us, r1, r2]; exact t1.symm
          · rw [pk_us, r2]; exact t2.symm
          · rw [pk_un (by decide)]; exact r3
          · rw [pk_un (by decide)]; exact r4
        · simp only [if_neg z]
          obtain ⟨t1, t2, t3⟩ := tl_lr (s := s2) (u := nI d) r6
          refine ⟨?_, ?_, ?_, ?_, r5, t3⟩
          · rw [pk_un (by decide)]; exact r1
          · rw [pk_un (by decide)]; exact r2
          · rw [pk_us, r3, r4]; exact t1.symm
          · rw [pk_us, r4]; exact t2.symm
      · rw [if_neg w, if_neg (show ¬ (2 : Int32) ≤ 0 by decide)]
        exact Or.inr (Or.inl ⟨nI d, q2, _, nI_nm1 (by omega), w, c2, rfl, rfl⟩)
    · -- the number did not come
      refine Or.inr (Or.inr ⟨q2, (s, n, s2, n2), c2, ?_, ?_⟩)
      · unfold rdU
        rw [o4]
        simp only []
        rw [if_neg hn1, hkk, c4]
        exact if_pos rfl
      · have eT : tuT g (8 * L) (ctG ix) su mn q 0 = 1 := by unfold tuT; rw [eR, c3]; rfl
        unfold tuS
        rw [eT, eR, c3]
        rfl
  · refine Or.inr (Or.inr ⟨q1, (s, n, s2, n2), o2, ?_, ?_⟩)
    · unfold rdU
      rw [o4]
      exact if_pos rfl
    · have eR : tuR g (8 * L) (ctG ix) su mn q 0 = (0, q1, 1) := by unfold tuR; rw [o3]; rfl
      have eT : tuT g (8 * L) (ctG ix) su mn q 0 = 1 := by unfold tuT; rw [eR]; rfl
      unfold tuS
      rw [eT, eR]
      rfl
