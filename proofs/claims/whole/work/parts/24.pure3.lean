/-! the reference's pieces, as functions; what they are beside the class's stands in a later part -/
def oP (pix : Nat → Int32) (o : Nat) : Nat → Int32 := fun j => pix (144 * o + j)
def sumF (f : Nat → Int32) : Nat → Int32
  | 0 => 0
  | k + 1 => sumF f k + f k
def fo2 (ry cx : Nat) (ab lf : Nat → Int32) (co way : Int32) (i j : Nat) : Int32 :=
  if way = 0 then meanB (b2i ry) (b2i cx) ab lf else if way = 1 then ab i else if way = 2 then lf j else clip (lf j + ab i - co)
def putO (o : Nat) (pix : Nat → Int32) (x y : Nat) (v : Nat → Int32) : Nat → (Nat → Int32)
  | 0 => pix
  | k + 1 => upd (putO o pix x y v k) (144 * o + ((y + k / 4) * 12 + (x + k % 4))) (v k)
def lrS (s n u : Int32) : Int32 := if 16 ≤ n + 1 then (s + u) / 2 else s + u
def lrN (n : Int32) : Int32 := if 16 ≤ n + 1 then (n + 1) / 2 else n + 1
def pw0 (f : Nat → Int32) (n : Nat) : Nat → Int32 := if n % 8 = 0 then upd f (n / 8) 0 else f
def pw1 (f : Nat → Int32) (n : Nat) (b : Int32) : Nat → Int32 := if b = 1 then upd (pw0 f n) (n / 8) (pw0 f n (n / 8) ||| (128 >>> (nI (n % 8) &&& 31))) else pw0 f n
def pwF (v : Int32) : Nat → (Nat → Int32) → Nat → (Nat → Int32)
  | 0, f, _ => f
  | i + 1, f, n => pwF v i (pw1 f n ((v >>> (nI i &&& 31)) &&& 1)) (n + 1)
def pwO : Nat → (Nat → Int32) → Nat → (Nat → Int32)
  | 0, f, _ => f
  | i + 1, f, n => pwF 1 1 (pwO i f n) (n + i)
def puU (u k : Nat) (f : Nat → Int32) (n : Nat) : (Nat → Int32) × Nat :=
  if u / 2 ^ k < 12 then (pwF (nI u) k (pwF 0 1 (pwO (u / 2 ^ k) f n) (n + u / 2 ^ k)) (n + u / 2 ^ k + 1), n + u / 2 ^ k + 1 + k)
  else (pwF (nI u) 14 (pwO 12 f n) (n + 12), n + 12 + 14)
theorem upd_upd {f : Nat → Int32} {k : Nat} {a b : Int32} : upd (upd f k a) k b = upd f k b := by
  funext j
  by_cases e : j = k
  · subst e; rw [pk_us, pk_us]
  · rw [pk_un e, pk_un e, pk_un e]
theorem cs_at (o x y : Nat) : 144 * nI o + 12 * nI y + nI x = nI (144 * o + 12 * y + x) := by
  rw [show (144 : Int32) * nI o = nI (144 * o) from pk_mul 144 o, show (12 : Int32) * nI y = nI (12 * y) from pk_mul 12 y, nI_add, nI_add]
theorem cs_nz1 {n : Nat} (h : ¬ nI n = 0) : 0 < n := by
  rcases Nat.eq_zero_or_pos n with e | e
  · subst e; exact absurd rfl h
  · exact e
theorem cs_k2 (c k s : Nat) : nI k + nI c * nI s = nI (k + c * s) := by rw [pk_mul, nI_add]
theorem cs_rem4 {k : Nat} (h : k < 2 ^ 31) : nI k - nI k / 4 * 4 = nI (k % 4) := pk_rem (a := k) (d := 4) h (by decide) (by decide)
theorem cs_div4 {k : Nat} (h : k < 2 ^ 31) : nI k / 4 = nI (k / 4) := pk_div (a := k) (d := 4) h (by decide) (by decide)
theorem sumF4 (f : Nat → Int32) : sumF f 4 = f 0 + f 1 + f 2 + f 3 := by
  show 0 + f 0 + f 1 + f 2 + f 3 = _
  rw [Int32.zero_add]
