/-! what the class's open calls ask for -/
theorem cs_nm1 {k : Nat} (hk : k < 2 ^ 31) : ¬ nI k = -1 := fun h => by
  have h1 := nI_pos hk
  rw [h] at h1
  exact h1 (by decide)
theorem cs_c8 {x : Int32} (h : ¬ x < 0 ∧ ¬ 7 < x) (h0 : ¬ x = 0) (h1 : ¬ x = 1) (h2 : ¬ x = 2) (h3 : ¬ x = 3) (h4 : ¬ x = 4) (h5 : ¬ x = 5) (h6 : ¬ x = 6) (h7 : ¬ x = 7) : False := by
  obtain ⟨k, hk, rfl⟩ := nI_of2 (x := x) (M := 7) (n := 7) rfl h.1 (Int32.not_lt.mp h.2)
  rcases (show k = 0 ∨ k = 1 ∨ k = 2 ∨ k = 3 ∨ k = 4 ∨ k = 5 ∨ k = 6 ∨ k = 7 by omega) with rfl | rfl | rfl | rfl | rfl | rfl | rfl | rfl
  · exact h0 rfl
  · exact h1 rfl
  · exact h2 rfl
  · exact h3 rfl
  · exact h4 rfl
  · exact h5 rfl
  · exact h6 rfl
  · exact h7 rfl
theorem cs_s4 {x : Int32} {k : Nat} (hx : x = nI k) (h : 1 ≤ k ∧ k ≤ 3) : sideP (x * 4) := by
  subst hx
  rcases (show k = 1 ∨ k = 2 ∨ k = 3 by omega) with rfl | rfl | rfl
  · exact Or.inl rfl
  · exact Or.inr (Or.inl rfl)
  · exact Or.inr (Or.inr rfl)
theorem mdS_le (po : Nat → Int32) (cw : Nat) (q : Int32) (st : MD) : ∀ b, (mdS po cw q st b).2.2.2.1 ≤ st.2.2.2.1 + 423 * b
  | 0 => Nat.le_refl _
  | b + 1 => by
    have h1 := mdS_le po cw q st b
    rw [mdS]
    generalize mdS po cw q st b = z at h1 ⊢
    obtain ⟨pd, md, f, n, r⟩ := z
    have h2 := cbS_le po pd (4 * (b % cw)) (4 * (b / cw)) q f n r
    show (cbS po pd (4 * (b % cw)) (4 * (b / cw)) q (f, n, r)).2.1 ≤ _
    have h3 : n ≤ st.2.2.2.1 + 423 * b := h1
    refine Nat.le_trans h2 ?_
    clear h2 h1
    generalize st.2.2.2.1 = u at h3 ⊢
    omega
