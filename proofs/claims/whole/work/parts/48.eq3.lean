/-! a block coded on both sides: levels, counts, pixels -/
def stL (lv : Nat → Int32) (l0 g0 : Int32) : Nat → Nat × Int32 × Int32
  | 0 => (0, l0, g0)
  | k + 1 => (if lv k = 0 then (stL lv l0 g0 k).1 else k + 1, (stL lv l0 g0 k).2.1 + (if lv k = 0 then 0 else 1), if (stL lv l0 g0 k).2.2 < (if 0 ≤ lv k then lv k else 0 - lv k) then (if 0 ≤ lv k then lv k else 0 - lv k) else (stL lv l0 g0 k).2.2)
theorem stGL {q : Int32} {wk lv : Nat → Int32} (hq : coarP q) (hb : ∀ j, j < 16 → bd 4080 (wk j)) (hl : ∀ j, j < 16 → lv j = lvG q (wk j)) (l0 g0 : Int32) : ∀ k, k ≤ 16 → stG q wk l0 g0 k = stL lv l0 g0 k
  | 0, _ => rfl
  | k + 1, hk => by
    obtain ⟨h1, h2, h3⟩ := lG_abs hq (hb k (by omega))
    have ih := stGL hq hb hl l0 g0 k (by omega)
    rw [stG, stL, ih, hl k (by omega), h2]
    by_cases c : lG q (wk k) ≤ 0
    · rw [if_pos c, if_pos c, if_pos (h1.mp c), if_pos (h1.mp c), Int32.add_zero]
      by_cases d : lG q (wk k) ≤ (stL lv l0 g0 k).2.2
      · rw [if_pos d, if_neg (Int32.not_lt.mpr d)]
      · rw [if_neg d, if_pos (Int32.not_le.mp d)]
    · rw [if_neg c, if_neg c, if_neg (fun h => c (h1.mpr h)), if_neg (fun h => c (h1.mpr h))]
      by_cases d : lG q (wk k) ≤ (stL lv l0 g0 k).2.2
      · rw [if_pos d, if_neg (Int32.not_lt.mpr d)]
      · rw [if_neg d, if_pos (Int32.not_le.mp d)]
theorem upTo_stL (lv : Nat → Int32) (l0 g0 : Int32) : ∀ k, upTo lv k = (stL lv l0 g0 k).1
  | 0 => rfl
  | k + 1 => by rw [upTo, stL, upTo_stL lv l0 g0 k]
theorem upTo_zero (lv : Nat → Int32) : ∀ k j, upTo lv k ≤ j → j < k → lv j = 0
  | 0, j, _, h => absurd h (by omega)
  | k + 1, j, h1, h2 => by
    rw [upTo] at h1
    by_cases c : lv k = 0
    · rw [if_pos c] at h1
      by_cases e : j = k
      · rw [e]; exact c
      · exact upTo_zero lv k j h1 (by omega)
    · rw [if_neg c] at h1
      omega
theorem stL_nn {lv : Nat → Int32} (l0 : Int32) {g0 : Int32} (h : ¬ g0 < 0) : ∀ k, ¬ (stL lv l0 g0 k).2.2 < 0
  | 0 => h
  | k + 1 => by
    have ih := stL_nn (lv := lv) l0 h k
    rw [stL]
    show ¬ (if (stL lv l0 g0 k).2.2 < (if 0 ≤ lv k then lv k else 0 - lv k) then (if 0 ≤ lv k then lv k else 0 - lv k) else (stL lv l0 g0 k).2.2) < 0
    generalize (if 0 ≤ lv k then lv k else 0 - lv k) = w
    by_cases c : (stL lv l0 g0 k).2.2 < w
    · rw [if_pos c]; exact fun q => ih (Int32.lt_trans c q)
    · rw [if_neg c]; exact ih
theorem stL_tail {lv : Nat → Int32} (l0 : Int32) {g0 : Int32} (h : ¬ g0 < 0) (u : Nat) : ∀ d, (∀ j, u ≤ j → j < u + d → lv j = 0) → (stL lv l0 g0 (u + d)).2 = (stL lv l0 g0 u).2
  | 0, _ => rfl
  | d + 1, hz => by
    have ih := stL_tail l0 h u d (fun j h1 h2 => hz j h1 (by omega))
    have z := hz (u + d) (by omega) (by omega)
    have nn := stL_nn (lv := lv) l0 h (u + d)
    rw [show u + (d + 1) = (u + d) + 1 by omega, stL, z]
    show ((stL lv l0 g0 (u + d)).2.1 + (if (0 : Int32) = 0 then 0 else 1), if (stL lv l0 g0 (u + d)).2.2 < (if (0 : Int32) ≤ 0 then 0 else 0 - 0) then (if (0 : Int32) ≤ 0 then 0 else 0 - 0) else (stL lv l0 g0 (u + d)).2.2) = _
    have e0 : (if (0 : Int32) ≤ 0 then (0 : Int32) else 0 - 0) = 0 := by decide
    rw [if_pos rfl, e0, if_neg nn, Int32.add_zero, ← ih]
/-- the counts of the class's writing are those of the reference -/
theorem wlF_st (lv : Nat → Int32) (l0 g0 : Int32) : ∀ (k i : Nat) (f : Nat → Int32) (n : Nat) (s sn s2 sn2 nz gr : Int32), (nz, gr) = (stL lv l0 g0 i).2 → (wlF lv k i (f, n, s, sn, s2, sn2, nz, gr)).2.2.2.2.2.2 = (stL lv l0 g0 (i + k)).2
  | 0, _, _, _, _, _, _, _, _, _, h => h
  | k + 1, i, f, n, s, sn, s2, sn2, nz, gr, h => by
    rw [wlF, show i + (k + 1) = (i + 1) + k by omega]
    refine wlF_st lv l0 g0 k (i + 1) _ _ _ _ _ _ _ _ ?_
    have h1 : nz = (stL lv l0 g0 i).2.1 := congrArg Prod.fst h
    have h2 : gr = (stL lv l0 g0 i).2.2 := congrArg Prod.snd h
    rw [stL, h1, h2]
def SR (f : Nat → Int32) (n : Nat) (s sn s2 sn2 : Int32) (st : PS) : Prop := bits8 f st.1 n ∧ n = st.2.1 ∧ st.2.2.1 0 = s ∧ st.2.2.2 0 = sn ∧ st.2.2.1 1 = s2 ∧ st.2.2.2 1 = sn2 ∧ cnt16 sn ∧ cnt16 sn2
theorem SR_step {f : Nat → Int32} {n : Nat} {s sn s2 sn2 nz gr : Int32} {st : PS} (h : SR f n s sn s2 sn2 st) (i : Nat) (lev : Int32) :
    ∃ f' n' s' sn' s2' sn2' nz' gr', wl1 i lev (f, n, s, sn, s2, sn2, nz, gr) = (f', n', s', sn', s2', sn2', nz', gr') ∧ SR f' n' s' sn' s2' sn2' (pl1 i lev st) := by
  refine ⟨_, _, _, _, _, _, _, _, rfl, ?_⟩
  obtain ⟨g, nb, su, mn⟩ := st
  obtain ⟨h1, h2, h3, h4, h5, h6, h7, h8⟩ := h
  have h2 : n = nb := h2
  have h3 : su 0 = s := h3
  have h4 : mn 0 = sn := h4
  have h5 : su 1 = s2 := h5
  have h6 : mn 1 = sn2 := h6
  subst h2 h3 h4 h5 h6
  unfold SR pl1 lcK ctG
  by_cases c : i = 0
  · subst c
    obtain ⟨b1, b2⟩ := bits8_U h1 (uN lev) (lowK (mn 0) (su 0))
    obtain ⟨t1, t2, t3⟩ := tl_lr (s := su 0) (u := nI (uN lev)) h7
    rw [if_pos rfl, if_pos rfl, if_pos rfl, if_pos rfl, if_pos rfl, if_pos rfl]
    refine ⟨b1, b2, ?_, ?_, ?_, ?_, t3, h8⟩
    · show upd su 0 (lrS (su 0) (mn 0) (nI (uN lev))) 0 = tlS (su 0) (mn 0) (nI (uN lev)); rw [pk_us]; exact t1.symm
    · show upd mn 0 (lrN (mn 0)) 0 = tlN (mn 0); rw [pk_us]; exact t2.symm
    · show upd su 0 (lrS (su 0) (mn 0) (nI (uN lev))) 1 = su 1; exact pk_un (by decide)
    · show upd mn 0 (lrN (mn 0)) 1 = mn 1; exact pk_un (by decide)
  · obtain ⟨b1, b2⟩ := bits8_U h1 (uN lev) (lowK (mn 1) (su 1))
    obtain ⟨t1, t2, t3⟩ := tl_lr (s := su 1) (u := nI (uN lev)) h8
    rw [if_neg c, if_neg c, if_neg c, if_neg c, if_neg c, if_neg c]
    refine ⟨b1, b2, ?_, ?_, ?_, ?_, h7, t3⟩
    · show upd su 1 (lrS (su 1) (mn 1) (nI (uN lev))) 0 = su 0; exact pk_un (by decide)
    · show upd mn 1 (lrN (mn 1)) 0 = mn 0; exact pk_un (by decide)
    · show upd su 1 (lrS (su 1) (mn 1) (nI (uN lev))) 1 = tlS (su 1) (mn 1) (nI (uN lev)); rw [pk_us]; exact t1.symm
    · show upd mn 1 (lrN (mn 1)) 1 = tlN (mn 1); rw [pk_us]; exact t2.symm
theorem SR_F (lv : Nat → Int32) : ∀ (k i : Nat) {f : Nat → Int32} {n : Nat} {s sn s2 sn2 nz gr : Int32} {st : PS}, SR f n s sn s2 sn2 st →
    ∃ f' n' s' sn' s2' sn2' nz' gr', wlF lv k i (f, n, s, sn, s2, sn2, nz, gr) = (f', n', s', sn', s2', sn2', nz', gr') ∧ SR f' n' s' sn' s2' sn2' (plF lv k i st)
  | 0, _, _, _, _, _, _, _, _, _, _, h => ⟨_, _, _, _, _, _, _, _, rfl, h⟩
  | k + 1, i, f, n, s, sn, s2, sn2, nz, gr, st, h => by
    obtain ⟨f', n', s', sn', s2', sn2', nz', gr', e, h1⟩ := SR_step (nz := nz) (gr := gr) h i (lv i)
    rw [wlF, plF, e]
    exact SR_F lv k (i + 1) h1
