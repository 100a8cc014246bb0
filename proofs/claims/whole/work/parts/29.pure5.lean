/-! the reference reads -/
def tkF (f : Nat → Int32) (en : Nat) : Nat → Nat → Int32 → Int32 × Nat × Int32
  | 0, q, x => (x, q, 0)
  | k + 1, q, x => if q = en then (0, q, 1) else tkF f en k (q + 1) (2 * x + bitAt f q)
def tkS (f : Nat → Int32) (en cnt q : Nat) (t : Int32) : Int32 × Nat × Int32 := if t = 0 then tkF f en cnt q 0 else (0, q, t)
def toF (f : Nat → Int32) (en : Nat) : Nat → Nat → Nat → Int32 → Nat × Nat × Int32
  | 0, o, q, t => (o, q, t)
  | k + 1, o, q, t => if (tkS f en 1 q t).1 = 1 then toF f en k (o + 1) (tkS f en 1 q t).2.1 (tkS f en 1 q t).2.2 else (o, (tkS f en 1 q t).2.1, (tkS f en 1 q t).2.2)
theorem tkF_le (f : Nat → Int32) (en : Nat) : ∀ (k q : Nat) (x : Int32), q ≤ en → (tkF f en k q x).2.1 ≤ en
  | 0, q, x, h => h
  | k + 1, q, x, h => by
    rw [tkF]
    split
    · exact h
    · exact tkF_le f en k (q + 1) _ (by omega)
theorem tkS_le (f : Nat → Int32) (en cnt q : Nat) (t : Int32) (h : q ≤ en) : (tkS f en cnt q t).2.1 ≤ en := by
  unfold tkS
  split
  · exact tkF_le f en cnt q 0 h
  · exact h
theorem toF_le (f : Nat → Int32) (en : Nat) : ∀ (k o q : Nat) (t : Int32), q ≤ en → (toF f en k o q t).2.1 ≤ en ∧ (toF f en k o q t).1 ≤ o + k
  | 0, o, q, t, h => ⟨h, Nat.le_refl _⟩
  | k + 1, o, q, t, h => by
    rw [toF]
    split
    · have := toF_le f en k (o + 1) (tkS f en 1 q t).2.1 (tkS f en 1 q t).2.2 (tkS_le f en 1 q t h)
      exact ⟨this.1, by omega⟩
    · exact ⟨tkS_le f en 1 q t h, by show o ≤ _; omega⟩
/-- a level read: its number, the place, the trouble -/
def tuR (f : Nat → Int32) (en ct : Nat) (su mn : Nat → Int32) (q : Nat) (t : Int32) : Int32 × Nat × Int32 :=
  tkS f en (if (toF f en 12 0 q t).1 = 12 then 14 else lowK (mn ct) (su ct)) (toF f en 12 0 q t).2.1 (toF f en 12 0 q t).2.2
def tuU (f : Nat → Int32) (en ct : Nat) (su mn : Nat → Int32) (q : Nat) (t : Int32) : Int32 :=
  if (toF f en 12 0 q t).1 = 12 then (tuR f en ct su mn q t).1 else (nI (toF f en 12 0 q t).1 <<< (nI (lowK (mn ct) (su ct)) &&& 31)) + (tuR f en ct su mn q t).1
def tuT (f : Nat → Int32) (en ct : Nat) (su mn : Nat → Int32) (q : Nat) (t : Int32) : Int32 :=
  if (tuR f en ct su mn q t).2.2 = 0 then (if tuU f en ct su mn q t ≤ 8190 then (tuR f en ct su mn q t).2.2 else 2) else (tuR f en ct su mn q t).2.2
abbrev TL : Type := Int32 × Nat × Int32 × (Nat → Int32) × (Nat → Int32)
def tuS (f : Nat → Int32) (en ct : Nat) (su mn : Nat → Int32) (q : Nat) (t : Int32) : TL :=
  if tuT f en ct su mn q t ≤ 0 then (lvOf (tuU f en ct su mn q t), (tuR f en ct su mn q t).2.1, tuT f en ct su mn q t, upd su ct (lrS (su ct) (mn ct) (tuU f en ct su mn q t)), upd mn ct (lrN (mn ct)))
  else (0, (tuR f en ct su mn q t).2.1, tuT f en ct su mn q t, su, mn)
theorem tuS_le (f : Nat → Int32) (en ct : Nat) (su mn : Nat → Int32) (q : Nat) (t : Int32) (h : q ≤ en) : (tuS f en ct su mn q t).2.1 ≤ en := by
  have h1 := (toF_le f en 12 0 q t h).1
  have h2 : (tuR f en ct su mn q t).2.1 ≤ en := tkS_le f en _ _ _ h1
  unfold tuS
  split
  · exact h2
  · exact h2
/-- the levels of a block, read -/
abbrev TB : Type := Nat × Int32 × (Nat → Int32) × (Nat → Int32) × (Nat → Int32)
def trB (f : Nat → Int32) (en : Nat) (xn : Int32) : Nat → Nat → TB → TB
  | 0, _, st => st
  | k + 1, i, (q, t, su, mn, lv) => if xn ≤ nI i then (q, t, su, mn, lv) else if t = 0 then trB f en xn k (i + 1) ((tuS f en (ctG i) su mn q t).2.1, (tuS f en (ctG i) su mn q t).2.2.1, (tuS f en (ctG i) su mn q t).2.2.2.1, (tuS f en (ctG i) su mn q t).2.2.2.2, upd lv i (tuS f en (ctG i) su mn q t).1) else (q, t, su, mn, lv)
theorem tk_end {f : Nat → Int32} {en cnt k q qb : Nat} {x t : Int32} (hk : cnt ≤ k) (he : t = 0 → tkF f en (cnt - k) q x = tkF f en cnt qb 0) (h0 : ¬ t = 0 → k = 0 ∧ q = qb ∧ x = 0) : tkS f en cnt qb t = (x, q, t) := by
  unfold tkS
  by_cases h : t = 0
  · rw [if_pos h, ← he h, show cnt - k = 0 by omega, h]
    rfl
  · obtain ⟨-, h2, h3⟩ := h0 h
    rw [if_neg h, h2, h3]
theorem tk_tr {f : Nat → Int32} {en cnt k q qb : Nat} {x t : Int32} (h : ¬ t = 0) (h0 : ¬ t = 0 → k = 0 ∧ q = qb ∧ x = 0) : tkS f en cnt qb t = (x, q, t) := by
  obtain ⟨-, h2, h3⟩ := h0 h
  rw [tkS, if_neg h, h2, h3]
theorem tk_out {f : Nat → Int32} {en cnt k q qb : Nat} {x t : Int32} (h : t = 0) (hk : k < cnt) (hq : q = en) (he : t = 0 → tkF f en (cnt - k) q x = tkF f en cnt qb 0) : tkS f en cnt qb t = (0, q, 1) := by
  rw [tkS, if_pos h, ← he h, show cnt - k = (cnt - (k + 1)) + 1 by omega, tkF, if_pos hq]
theorem trB_e1 {f : Nat → Int32} {en : Nat} {xn : Int32} {i : Nat} (h : xn ≤ nI i) : ∀ (k : Nat) (st : TB), trB f en xn k i st = st
  | 0, _ => rfl
  | k + 1, (q, t, su, mn, lv) => by rw [trB, if_pos h]
theorem trB_e2 {f : Nat → Int32} {en : Nat} {xn : Int32} {i : Nat} {q : Nat} {t : Int32} {su mn lv : Nat → Int32} (h : ¬ t = 0) : ∀ (k : Nat), trB f en xn k i (q, t, su, mn, lv) = (q, t, su, mn, lv)
  | 0 => rfl
  | k + 1 => by
    rw [trB]
    by_cases h1 : xn ≤ nI i
    · rw [if_pos h1]
    · rw [if_neg h1, if_neg h]
