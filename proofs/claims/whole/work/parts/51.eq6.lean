/-! a block read on both sides -/
theorem trB_stop (g : Nat → Int32) (en : Nat) (xn : Int32) {t : Int32} (ht : ¬ t = 0) : ∀ (k i q : Nat) (su mn lv : Nat → Int32), trB g en xn k i (q, t, su, mn, lv) = (q, t, su, mn, lv)
  | 0, _, _, _, _, _ => rfl
  | k + 1, i, q, su, mn, lv => by
    rw [trB, if_neg ht]
    split
    · rfl
    · rfl
theorem lvOf0 : lvOf 0 = 0 := by decide
theorem rlF_rest (f : Nat → Int32) (L : Nat) {xl : Int32} : ∀ (k i q : Nat) (s n s2 n2 : Int32) (lv : Nat → Int32), i + k ≤ 16 → xl ≤ nI i → ∃ lv' : Nat → Int32, rlF f L xl k i (q, s, n, s2, n2, lv) = (0, q, s, n, s2, n2, lv') ∧ (∀ j, j < i → lv' j = lv j) ∧ ∀ j, i ≤ j → j < i + k → lv' j = 0
  | 0, i, q, s, n, s2, n2, lv, _, _ => ⟨lv, rfl, fun _ _ => rfl, fun j h1 h2 => absurd h2 (by omega)⟩
  | k + 1, i, q, s, n, s2, n2, lv, hk, hx => by
    obtain ⟨lv', e, h1, h2⟩ := rlF_rest f L k (i + 1) q s n s2 n2 (upd lv i (lvOf 0)) (by omega) (Int32.le_trans hx ((nI_leI (a := i) (b := i + 1) (by omega) (by omega)).mpr (by omega)))
    rw [rlF, if_pos hx]
    refine ⟨lv', e, fun j hj => ?_, fun j h3 h4 => ?_⟩
    · rw [h1 j (by omega), pk_un (by omega)]
    · by_cases c : j = i
      · subst c; rw [h1 j (by omega), pk_us, lvOf0]
      · exact h2 j (by omega) (by omega)
theorem rlF_rel {f g : Nat → Int32} {L : Nat} (h : ∀ j, j < L → f j = g j) {xl : Int32} : ∀ (k i q : Nat) (s n s2 n2 : Int32) (lvc su mn lvr : Nat → Int32), i + k = 16 → q ≤ 8 * L → LR 0 s n s2 n2 su mn → (∀ j, j < i → lvc j = lvr j) → (∀ j, i ≤ j → j < 16 → lvr j = 0) →
    (∃ (q' : Nat) (s' n' s2' n2' : Int32) (lvc' su' mn' lvr' : Nat → Int32), rlF f L xl k i (q, s, n, s2, n2, lvc) = (0, q', s', n', s2', n2', lvc') ∧ trB g (8 * L) xl k i (q, 0, su, mn, lvr) = (q', 0, su', mn', lvr') ∧ q' ≤ 8 * L ∧ LR 0 s' n' s2' n2' su' mn' ∧ ∀ j, j < 16 → lvc' j = lvr' j) ∨
    (∃ (e : Int32) (q' : Nat) (s' n' s2' n2' : Int32) (lvc' su' mn' lvr' : Nat → Int32), (e = 1 ∨ e = 2) ∧ q' ≤ 8 * L ∧ rlF f L xl k i (q, s, n, s2, n2, lvc) = (e, q', s', n', s2', n2', lvc') ∧ trB g (8 * L) xl k i (q, 0, su, mn, lvr) = (q', e, su', mn', lvr'))
  | 0, i, q, s, n, s2, n2, lvc, su, mn, lvr, hi, hq, hR, h1, h2 => Or.inl ⟨q, s, n, s2, n2, lvc, su, mn, lvr, rfl, rfl, hq, hR, fun j hj => h1 j (by omega)⟩
  | k + 1, i, q, s, n, s2, n2, lvc, su, mn, lvr, hi, hq, hR, h1, h2 => by
    by_cases hx : xl ≤ nI i
    · obtain ⟨lv', e, g1, g2⟩ := rlF_rest f L (k + 1) i q s n s2 n2 lvc (by omega) hx
      refine Or.inl ⟨q, s, n, s2, n2, lv', su, mn, lvr, e, by rw [trB, if_pos hx], hq, hR, fun j hj => ?_⟩
      by_cases c : j < i
      · rw [g1 j c]; exact h1 j c
      · rw [g2 j (by omega) (by omega), h2 j (by omega) hj]
    · rw [rlF, trB, if_neg hx, if_neg hx, if_pos rfl]
      rcases rd_level h (ix := i) (q := q) hq (show LR i s n s2 n2 su mn from hR) with ⟨u, q', s', n', s2', n2', su', mn', u1, u2, u3, u4, u5, u6⟩ | ⟨u, q', r, u1, u2, u3, u4, u5⟩ | ⟨q', r, u3, u4, u5⟩
      · rw [u4, u5]
        have ih := rlF_rel h (xl := xl) k (i + 1) q' s' n' s2' n2' (upd lvc i (lvOf u)) su' mn' (upd lvr i (lvOf u)) (by omega) u3 u6
          (fun j hj => by
            by_cases c : j = i
            · subst c; rw [pk_us, pk_us]
            · rw [pk_un c, pk_un c]; exact h1 j (by omega))
          (fun j a b => by rw [pk_un (by omega)]; exact h2 j (by omega) b)
        simp only [if_neg u1, if_pos u2]
        exact ih
      · rw [u4, u5]
        obtain ⟨r1, r2, r3, r4⟩ := r
        simp only [if_neg u1, if_neg u2]
        exact Or.inr ⟨2, q', r1, r2, r3, r4, lvc, su, mn, _, Or.inr rfl, u3, rfl, trB_stop g (8 * L) xl (by decide) k (i + 1) q' su mn _⟩
      · rw [u4, u5]
        obtain ⟨r1, r2, r3, r4⟩ := r
        refine Or.inr ⟨1, q', r1, r2, r3, r4, lvc, su, mn, _, Or.inl rfl, u3, ?_, trB_stop g (8 * L) xl (t := 1) (by decide) k (i + 1) q' su mn _⟩
        exact if_pos rfl
theorem rb_rel {f g : Nat → Int32} {L : Nat} (h : ∀ j, j < L → f j = g j) (x y q : Nat) (s n s2 n2 : Int32) (lv px md su mn fz : Nat → Int32) (kn : Nat) (bo : Int32) (hq : q ≤ 8 * L) (hR : LR 0 s n s2 n2 su mn) (hz : ∀ j, j < 16 → fz j = 0) :
    (∃ (q' : Nat) (s' n' s2' n2' : Int32) (lv' su' mn' lvr' : Nat → Int32), rb1 f L x y (0, q, s, n, s2, n2, lv, px, md, kn, bo) = (0, q', s', n', s2', n2', lv', rbP px x y (cbF px x y (tkS g (8 * L) 2 q 0).1) lv' (f 2), upd md kn (tkS g (8 * L) 2 q 0).1, kn + 1, nI q') ∧ rgR g (8 * L) q su mn fz = (q', 0, su', mn', lvr') ∧ q' ≤ 8 * L ∧ LR 0 s' n' s2' n2' su' mn' ∧ ∀ j, j < 16 → lv' j = lvr' j) ∨
    (∃ (e : Int32) (q' : Nat) (s' n' s2' n2' : Int32) (lv' su' mn' lvr' : Nat → Int32), (e = 1 ∨ e = 2) ∧ q' ≤ 8 * L ∧ rb1 f L x y (0, q, s, n, s2, n2, lv, px, md, kn, bo) = (e, q', s', n', s2', n2', lv', px, md, kn, bo) ∧ rgR g (8 * L) q su mn fz = (q', e, su', mn', lvr')) := by
  have d1 : ¬ (1 : Int32) = 0 := by decide
  have d2 : ¬ (2 : Int32) = 0 := by decide
  have eb : rb1 f L x y (0, q, s, n, s2, n2, lv, px, md, kn, bo) = (if (rdB f L 2 q 0).1 = -1 then (1, (rdB f L 2 q 0).2, s, n, s2, n2, lv, px, md, kn, bo) else rb2 f x y (rdB f L 2 q 0).1 px md kn bo (rlS f L ((rdB f L 2 q 0).2, s, n, s2, n2, lv))) := rfl
  have eg : rgR g (8 * L) q su mn fz = rgR g (8 * L) q su mn fz := rfl
  conv at eg => rhs; unfold rgR
  rcases rd_bits0 h (k := 2) (q := q) hq (by decide) with ⟨c, q1, c1, c1', c2, c3, c4⟩ | ⟨q1, c2, c3, c4⟩
  · have hc : ¬ nI c = -1 := nI_nm1 (by omega)
    rw [c4] at eb
    have eb := eb.trans (if_neg hc)
    rw [c3] at eg
    rw [c3]
    have er : rlS f L (q1, s, n, s2, n2, lv) = (if (rdB f L 5 q1 0).1 = -1 then (1, (rdB f L 5 q1 0).2, s, n, s2, n2, lv) else if (rdB f L 5 q1 0).1 ≤ 16 then rlF f L (rdB f L 5 q1 0).1 16 0 ((rdB f L 5 q1 0).2, s, n, s2, n2, lv) else (2, (rdB f L 5 q1 0).2, s, n, s2, n2, lv)) := rfl
    rcases rd_bits0 h (k := 5) (q := q1) c2 (by decide) with ⟨d, q2, e1, e1', e2, e3, e4⟩ | ⟨q2, e2, e3, e4⟩
    · have hd : ¬ nI d = -1 := nI_nm1 (by omega)
      simp only [e3, eq_self, if_true] at eg
      rw [e4] at er
      have er := er.trans (if_neg hd)
      by_cases w : nI d ≤ 16
      · rw [if_pos w] at eg
        have er := er.trans (if_pos w)
        rcases rlF_rel h (xl := nI d) 16 0 q2 s n s2 n2 lv su mn fz rfl e2 hR (fun j hj => absurd hj (by omega)) (fun j _ hj => hz j hj) with ⟨q', s', n', s2', n2', lv', su', mn', lvr', a1, a2, a3, a4, a5⟩ | ⟨e, q', s', n', s2', n2', lv', su', mn', lvr', a0, a1, a2, a3⟩
        · refine Or.inl ⟨q', s', n', s2', n2', lv', su', mn', lvr', ?_, eg.trans a2, a3, a4, a5⟩
          have e9 := er.trans a1
          have eb2 : rb1 f L x y (0, q, s, n, s2, n2, lv, px, md, kn, bo) = rb2 f x y (nI c) px md kn bo (rlS f L (q1, s, n, s2, n2, lv)) := eb
          rw [eb2, e9]
          unfold rb2
          exact if_pos (c := (0 : Int32) = 0) rfl
        · refine Or.inr ⟨e, q', s', n', s2', n2', lv', su', mn', lvr', a0, a1, ?_, eg.trans a3⟩
          have he : ¬ e = 0 := by rcases a0 with rfl | rfl <;> decide
          have e9 := er.trans a2
          have eb2 : rb1 f L x y (0, q, s, n, s2, n2, lv, px, md, kn, bo) = rb2 f x y (nI c) px md kn bo (rlS f L (q1, s, n, s2, n2, lv)) := eb
          rw [eb2, e9]
          exact if_neg he
      · rw [if_neg w] at eg
        have e9 := er.trans (if_neg w)
        refine Or.inr ⟨2, q2, s, n, s2, n2, lv, su, mn, fz, Or.inr rfl, e2, ?_, eg.trans (trB_stop g (8 * L) (nI d) d2 16 0 q2 su mn fz)⟩
        have eb2 : rb1 f L x y (0, q, s, n, s2, n2, lv, px, md, kn, bo) = rb2 f x y (nI c) px md kn bo (rlS f L (q1, s, n, s2, n2, lv)) := eb
        rw [eb2, e9]
        unfold rb2
        exact if_neg d2
    · simp only [e3, if_neg d1] at eg
      rw [e4] at er
      have e9 := er.trans (if_pos rfl)
      refine Or.inr ⟨1, q2, s, n, s2, n2, lv, su, mn, fz, Or.inl rfl, e2, ?_, eg.trans (trB_stop g (8 * L) 0 d1 16 0 q2 su mn fz)⟩
      have eb2 : rb1 f L x y (0, q, s, n, s2, n2, lv, px, md, kn, bo) = rb2 f x y (nI c) px md kn bo (rlS f L (q1, s, n, s2, n2, lv)) := eb
      rw [eb2, e9]
      unfold rb2
      exact if_neg d1
  · have e5 : tkS g (8 * L) 5 q1 1 = (0, q1, 1) := if_neg d1
    rw [c4] at eb
    have eb := eb.trans (if_pos rfl)
    simp only [c3, e5, if_neg d1] at eg
    exact Or.inr ⟨1, q1, s, n, s2, n2, lv, su, mn, fz, Or.inl rfl, c2, eb, eg.trans (trB_stop g (8 * L) 0 d1 16 0 q1 su mn fz)⟩
