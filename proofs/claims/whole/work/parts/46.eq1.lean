/-! the class's pieces beside the reference's: bits, counts, the best way -/
def bits8 (f g : Nat → Int32) (n : Nat) : Prop := (∀ i, i < 400 → i < (n + 7) / 8 → f i = g i) ∧ ∀ i, i < 400 → (n + 7) / 8 ≤ i → f i = 0
theorem bit01 (v : Int32) : v &&& 1 = 0 ∨ v &&& 1 = 1 := by
  have h1 := pk_and v (m := 1) 1 rfl
  have h2 : v.toBitVec.toNat % 2 = 0 ∨ v.toBitVec.toNat % 2 = 1 := by omega
  rcases h2 with e | e <;> rw [show (2 : Nat) ^ 1 = 2 from rfl, e] at h1
  · exact Or.inl h1
  · exact Or.inr h1
theorem or0 (x : Int32) : x ||| 0 = x := by
  apply Int32.toBitVec_inj.mp
  rw [Int32.toBitVec_or]
  exact BitVec.or_zero
theorem shl8 : ∀ r, r < 8 → (1 : Int32) <<< ((7 - nI r) &&& 31) = 128 >>> (nI r &&& 31) := by decide
theorem shl80 : ∀ r, r < 8 → (0 : Int32) <<< ((7 - nI r) &&& 31) = 0 := by decide
theorem bits8_1 {f g : Nat → Int32} {n : Nat} (h : bits8 f g n) {b : Int32} (hb : b = 0 ∨ b = 1) : bits8 (wr1 f n b) (pw1 g n b) (n + 1) := by
  have hn : n = 8 * (n / 8) + n % 8 := by omega
  have hr : n % 8 < 8 := Nat.mod_lt n (by decide)
  have e1 : (n + 1 + 7) / 8 = n / 8 + 1 := by omega
  -- what stands at n / 8
  have key : n / 8 < 400 → f (n / 8) = pw0 g n (n / 8) := by
    intro hk
    unfold pw0
    by_cases h0 : n % 8 = 0
    · rw [if_pos h0, pk_us]; exact h.2 _ hk (by omega)
    · rw [if_neg h0]; exact h.1 _ hk (by omega)
  have off : ∀ i, i < 400 → i < n / 8 → f i = pw0 g n i := by
    intro i hi hlt
    unfold pw0
    by_cases h0 : n % 8 = 0
    · rw [if_pos h0, pk_un (by omega)]; exact h.1 _ hi (by omega)
    · rw [if_neg h0]; exact h.1 _ hi (by omega)
  have val : n / 8 < 400 → wr1 f n b (n / 8) = pw1 g n b (n / 8) := by
    intro hk
    unfold wr1 pw1
    rw [if_pos hk, pk_us, key hk]
    rcases hb with rfl | rfl
    · rw [if_neg (by decide), shl80 _ hr, or0]
    · rw [if_pos rfl, pk_us, shl8 _ hr]
  have off2 : ∀ i, ¬ i = n / 8 → wr1 f n b i = f i ∧ pw1 g n b i = pw0 g n i := by
    intro i hi
    unfold wr1 pw1
    constructor
    · split
      · exact pk_un hi
      · rfl
    · split
      · exact pk_un hi
      · rfl
  constructor
  · intro i hi hlt
    by_cases e : i = n / 8
    · subst e; exact val hi
    · rw [(off2 i e).1, (off2 i e).2]; exact off i hi (by omega)
  · intro i hi hge
    rw [(off2 i (by omega)).1]
    exact h.2 i hi (by omega)
theorem bits8_F (v : Int32) : ∀ (k : Nat) {f g : Nat → Int32} {n : Nat}, bits8 f g n → bits8 (wrF v k f n) (pwF v k g n) (n + k)
  | 0, _, _, _, h => h
  | k + 1, f, g, n, h => by
    have h1 := bits8_F v k (bits8_1 h (bit01 (v >>> (nI k &&& 31))))
    rw [wrF, pwF, show n + (k + 1) = n + 1 + k by omega]
    exact h1
def on1 : Nat → (Nat → Int32) → Nat → (Nat → Int32)
  | 0, f, _ => f
  | k + 1, f, n => on1 k (wr1 f n 1) (n + 1)
theorem on1_end : ∀ (k : Nat) (f : Nat → Int32) (n : Nat), on1 (k + 1) f n = wr1 (on1 k f n) (n + k) 1
  | 0, f, n => rfl
  | k + 1, f, n => by
    have := on1_end k (wr1 f n 1) (n + 1)
    rw [on1, this, on1, show n + 1 + k = n + (k + 1) by omega]
theorem wrF_on (v : Int32) (j : Nat) : ∀ (k : Nat) (f : Nat → Int32) (n : Nat), (∀ i, j ≤ i → i < j + k → (v >>> (nI i &&& 31)) &&& 1 = 1) → wrF v (j + k) f n = wrF v j (on1 k f n) (n + k)
  | 0, f, n, _ => rfl
  | k + 1, f, n, h => by
    rw [show j + (k + 1) = (j + k) + 1 by omega, wrF, h (j + k) (by omega) (by omega), wrF_on v j k (wr1 f n 1) (n + 1) (fun i h1 h2 => h i h1 (by omega)), on1, show n + 1 + k = n + (k + 1) by omega]
theorem pwF11 (g : Nat → Int32) (n : Nat) : pwF 1 1 g n = pw1 g n 1 := by
  rw [pwF, pwF]
  rfl
theorem bits8_on : ∀ (k : Nat) {f g : Nat → Int32} {n : Nat}, bits8 f g n → bits8 (on1 k f n) (pwO k g n) (n + k)
  | 0, _, _, _, h => h
  | k + 1, f, g, n, h => by
    have h1 := bits8_1 (bits8_on k h) (b := 1) (Or.inr rfl)
    rw [on1_end, pwO, pwF11]
    exact h1
theorem ones_a : ∀ o, o < 12 → ∀ i, i < o + 1 → 1 ≤ i → ((((2 : Int32) <<< (nI o &&& 31)) - 2) >>> (nI i &&& 31)) &&& 1 = 1 := by decide
theorem ones_b : ∀ i, i < 12 → ((4095 : Int32) >>> (nI i &&& 31)) &&& 1 = 1 := by decide
theorem ones_c : ∀ o, o < 12 → ((((2 : Int32) <<< (nI o &&& 31)) - 2) >>> (nI 0 &&& 31)) &&& 1 = 0 := by decide
theorem pwF01 (g : Nat → Int32) (n : Nat) : pwF 0 1 g n = pw1 g n 0 := by
  rw [pwF, pwF]
  rfl
theorem bits8_U {f g : Nat → Int32} {n : Nat} (h : bits8 f g n) (u k : Nat) : bits8 (wrU u k f n).1 (puU u k g n).1 (wrU u k f n).2 ∧ (wrU u k f n).2 = (puU u k g n).2 := by
  unfold wrU puU
  by_cases h12 : u / 2 ^ k < 12
  · rw [if_pos h12, if_pos h12]
    generalize u / 2 ^ k = o at h12
    have e : wrF ((2 <<< (nI o &&& 31)) - 2) (o + 1) f n = wr1 (on1 o f n) (n + o) 0 := by
      rw [show o + 1 = 1 + o by omega, wrF_on _ 1 o f n (fun i h1 h2 => ones_a o h12 i (by omega) h1), wrF, wrF, ones_c o h12]
    refine ⟨?_, by show n + (o + 1) + k = n + o + 1 + k; omega⟩
    show bits8 (wrF (nI u) k (wrF ((2 <<< (nI o &&& 31)) - 2) (o + 1) f n) (n + (o + 1))) (pwF (nI u) k (pwF 0 1 (pwO o g n) (n + o)) (n + o + 1)) (n + (o + 1) + k)
    rw [e, pwF01]
    exact bits8_F (nI u) k (bits8_1 (bits8_on o h) (Or.inl rfl))
  · rw [if_neg h12, if_neg h12]
    refine ⟨?_, rfl⟩
    have e : wrF 4095 12 f n = on1 12 f n := by
      rw [show (12 : Nat) = 0 + 12 from rfl, wrF_on 4095 0 12 f n (fun i _ h2 => ones_b i (by omega)), wrF]
    show bits8 (wrF (nI u) 14 (wrF 4095 12 f n) (n + 12)) (pwF (nI u) 14 (pwO 12 g n) (n + 12)) (n + 12 + 14)
    rw [e]
    exact bits8_F (nI u) 14 (bits8_on 12 h)
/-- counts -/
def cnt16 (x : Int32) : Prop := ∃ k : Nat, k < 16 ∧ x = nI k
theorem tl_lr {s n u : Int32} (h : cnt16 n) : tlS s n u = lrS s n u ∧ tlN n = lrN n ∧ cnt16 (tlN n) := by
  obtain ⟨k, hk, rfl⟩ := h
  unfold tlS tlN lrS lrN
  rw [show nI k + 1 = nI (k + 1) from nI_1 k]
  by_cases e : k = 15
  · subst e
    exact ⟨rfl, rfl, ⟨8, by decide, rfl⟩⟩
  · have h1 : ¬ nI (k + 1) = 16 := fun q => e (by have := (nI_eq (a := k + 1) (b := 16) (by omega) (by decide)).mp q; omega)
    have h2 : ¬ (16 : Int32) ≤ nI (k + 1) := fun q => absurd ((nI_leI (a := 16) (b := k + 1) (by decide) (by omega)).mp q) (by omega)
    rw [if_neg h1, if_neg h1, if_neg h2, if_neg h2]
    exact ⟨rfl, rfl, ⟨k + 1, by omega, rfl⟩⟩
/-- the best way -/
theorem missFG (px : Nat → Int32) (x y : Nat) (fo : Nat → Int32) : ∀ k, missF px x y fo k = missG (fun k => px ((y + k / 4) * 12 + (x + k % 4)) - fo k) k
  | 0 => rfl
  | k + 1 => by rw [missF, missG, missFG px x y fo k, neg0]
theorem missG_b {d : Nat → Int32} (h : ∀ j, j < 16 → bd 255 (d j)) : ∀ k, k ≤ 16 → ∃ n : Nat, n ≤ 255 * k ∧ missG d k = nI n
  | 0, _ => ⟨0, by omega, rfl⟩
  | k + 1, hk => by
    obtain ⟨n, h1, h2⟩ := missG_b h k (by omega)
    obtain ⟨a, h3, h4, -, -, -⟩ := absN (B := 255) (h k (by omega)) (by decide)
    rw [neg0] at h4
    exact ⟨n + a, by omega, by rw [missG, h2, h4, nI_add]⟩
def bestH (D : Nat → Nat → Int32) : Nat → Nat × Int32
  | 0 => (0, 4081)
  | k + 1 => if (bestH D k).2 ≤ missG (D k) 16 then bestH D k else (k, missG (D k) 16)
theorem bestHG {D : Nat → Nat → Int32} (h : ∀ m, m < 4 → ∀ j, j < 16 → bd 255 (D m j)) : ∀ m, m < 4 → bestH D (m + 1) = bestG D (m + 1) ∧ ¬ (bestG D (m + 1)).2 < 0
  | 0, _ => by
    obtain ⟨n, h1, h2⟩ := missG_b (h 0 (by decide)) 16 (Nat.le_refl 16)
    have e1 : bestH D 1 = (0, nI n) := by
      rw [bestH, bestH, h2]
      exact if_neg (fun q => absurd ((nI_leI (a := 4081) (b := n) (by decide) (by omega)).mp q) (by omega))
    have e2 : bestG D 1 = (0, nI n) := by
      rw [bestG, bestG, h2]
      rfl
    rw [e1, e2]
    exact ⟨rfl, nI_pos (by omega)⟩
  | m + 1, hm => by
    obtain ⟨h1, h2⟩ := bestHG h m (by omega)
    obtain ⟨n, h3, h4⟩ := missG_b (h (m + 1) hm) 16 (Nat.le_refl 16)
    rw [bestH, bestG, h1, if_neg h2]
    by_cases c : (bestG D (m + 1)).2 ≤ missG (D (m + 1)) 16
    · rw [if_pos c, if_neg (Int32.not_lt.mpr c)]
      exact ⟨rfl, h2⟩
    · rw [if_neg c, if_pos (Int32.not_le.mp c)]
      refine ⟨rfl, ?_⟩
      show ¬ missG (D (m + 1)) 16 < 0
      rw [h4]
      exact nI_pos (by omega)
theorem bestFH (px : Nat → Int32) (x y : Nat) (vr vc : Int32) (ab lf : Nat → Int32) (cr : Int32) : ∀ k, bestF px x y vr vc ab lf cr k = bestH (fun m k => px ((y + k / 4) * 12 + (x + k % 4)) - foreB vr vc ab lf cr (nI m) k) k
  | 0 => rfl
  | k + 1 => by rw [bestF, bestH, bestFH px x y vr vc ab lf cr k, missFG]
theorem bestH_ag {D E : Nat → Nat → Int32} (h : ∀ m j, j < 16 → D m j = E m j) : ∀ m, bestH D m = bestH E m
  | 0 => rfl
  | m + 1 => by rw [bestH, bestH, bestH_ag h m, missG_ag (h m) 16 (Nat.le_refl 16)]
