/-! a row read on both sides -/
def DOk (pix0 mds0 : Nat → Int32) (L cw b : Nat) (m : RD) (e : DS) : Prop :=
  ∃ (q : Nat) (s n s2 n2 : Int32) (lv px md : Nat → Int32) (bo : Int32) (pix mds su mn : Nat → Int32), m = (0, q, s, n, s2, n2, lv, px, md, b, bo) ∧ e = (pix, mds, q, 0, su, mn, b, bo) ∧ q ≤ 8 * L ∧ LR 0 s n s2 n2 su mn ∧
    (∀ j, seen cw b j → px j = oP pix 3 j) ∧ (∀ j, j < 144 → ¬ seen cw b j → oP pix 3 j = 128) ∧ (∀ j, j < b → md j = mds (9 + j)) ∧ (∀ j, j < 432 → pix j = pix0 j) ∧ ∀ j, j < 9 → mds j = mds0 j
def DEnd (pix0 mds0 : Nat → Int32) (cw k b : Nat) (m : RD) (e : DS) : Prop :=
  ∃ (er : Int32) (q : Nat) (s n s2 n2 : Int32) (lv px md : Nat → Int32) (bo : Int32) (pix mds su mn : Nat → Int32), (er = 1 ∨ er = 2) ∧ k < b ∧ m = (er, q, s, n, s2, n2, lv, px, md, k, bo) ∧ e = (pix, mds, q, er, su, mn, k, bo) ∧
    (∀ j, seen cw b j → px j = oP pix 3 j) ∧ (∀ j, j < 144 → ¬ seen cw k j → oP pix 3 j = 128) ∧ (∀ j, j < k → md j = mds (9 + j)) ∧ (∀ j, j < 432 → pix j = pix0 j) ∧ ∀ j, j < 9 → mds j = mds0 j
theorem seen_s {cw cx cy j : Nat} (hcw : cw ≤ 3) (hcx : cx < cw) (hj : seen cw (cy * cw + cx + 1) j) (hn : ¬ (4 * cy ≤ j / 12 ∧ j / 12 < 4 * cy + 4 ∧ 4 * cx ≤ j % 12 ∧ j % 12 < 4 * cx + 4)) : seen cw (cy * cw + cx) j := by
  unfold seen at hj ⊢
  rcases cw123 hcx hcw with rfl | rfl | rfl <;> omega
theorem in_seen {cw cx cy j : Nat} (hcw : cw ≤ 3) (hcx : cx < cw) (hj : j < 144) (hn : 4 * cy ≤ j / 12 ∧ j / 12 < 4 * cy + 4 ∧ 4 * cx ≤ j % 12 ∧ j % 12 < 4 * cx + 4) : seen cw (cy * cw + cx + 1) j ∧ ∀ k, k ≤ cy * cw + cx → ¬ seen cw k j := by
  unfold seen
  rcases cw123 hcx hcw with rfl | rfl | rfl
  · exact ⟨by omega, fun k hk => by omega⟩
  · exact ⟨by omega, fun k hk => by omega⟩
  · exact ⟨by omega, fun k hk => by omega⟩
theorem grey_sim {px pix : Nat → Int32} {cw cx cy k : Nat} (hcw : cw ≤ 3) (hcx : cx < cw) (hk : k ≤ cy * cw + cx) (h : ∀ j, seen cw (cy * cw + cx) j → px j = oP pix 3 j) (hg : ∀ j, j < 144 → ¬ seen cw k j → oP pix 3 j = 128) :
    ∀ j, seen cw (cy * cw + cx + 1) j → putF px (4 * cx) (4 * cy) (fun _ => 128) 16 j = oP pix 3 j := by
  intro j hj
  have h144 : j < 144 := hj.1
  rw [putF_cl px (by omega) _ j 16 (Nat.le_refl 16)]
  by_cases c : 4 * cy ≤ j / 12 ∧ j / 12 < 4 * cy + 4 ∧ 4 * cx ≤ j % 12 ∧ j % 12 < 4 * cx + 4
  · rw [if_pos ⟨c, by omega⟩]
    exact (hg j h144 ((in_seen hcw hcx h144 c).2 k hk)).symm
  · rw [if_neg (fun q => c q.1)]
    exact h j (seen_s hcw hcx hj c)
theorem end_step {f pix0 mds0 : Nat → Int32} {L cw k b : Nat} {m : RD} {e : DS} (hc0 : 0 < cw) (hcw : cw ≤ 3) (h : DEnd pix0 mds0 cw k b m e) : DEnd pix0 mds0 cw k (b + 1) (ri1 f L cw b m) e := by
  obtain ⟨er, q, s, n, s2, n2, lv, px, md, bo, pix, mds, su, mn, h0, hk, rfl, rfl, h1, h2, h3, h4, h5⟩ := h
  have hcx : b % cw < cw := Nat.mod_lt b hc0
  have hbb : b = b / cw * cw + b % cw := (Nat.div_add_mod' b cw).symm
  have he : ¬ er = 0 := by rcases h0 with rfl | rfl <;> decide
  have e1 : ri1 f L cw b (er, q, s, n, s2, n2, lv, px, md, k, bo) = (er, q, s, n, s2, n2, lv, putF px (4 * (b % cw)) (4 * (b / cw)) (fun _ => 128) 16, md, k, bo) := by
    unfold ri1
    exact if_neg he
  rw [e1]
  refine ⟨er, q, s, n, s2, n2, lv, _, md, bo, pix, mds, su, mn, h0, by omega, rfl, rfl, ?_, h2, h3, h4, h5⟩
  have g := grey_sim (px := px) (pix := pix) (cy := b / cw) (k := k) hcw hcx (by omega) (by rw [← hbb]; exact h1) h2
  rw [← hbb] at g
  exact g
theorem ok_step {f g pix0 mds0 : Nat → Int32} {L cw ch b : Nat} {m : RD} {e e' : DS} (hfg : ∀ j, j < L → f j = g j) (hL : 2 < L) (hcw : cw ≤ 3) (hch : ch ≤ 3) (hb : b < cw * ch) (h : DOk pix0 mds0 L cw b m e) (hR : readR g (8 * L) (4 * (b % cw)) (4 * (b / cw)) (g 2) e e') :
    DOk pix0 mds0 L cw (b + 1) (ri1 f L cw b m) e' ∨ DEnd pix0 mds0 cw b (b + 1) (ri1 f L cw b m) e' := by
  have hc0 : 0 < cw := by
    rcases Nat.eq_zero_or_pos cw with z | z
    · rw [z, Nat.zero_mul] at hb; omega
    · exact z
  have hcx : b % cw < cw := Nat.mod_lt b hc0
  have hcy : b / cw < ch := Nat.div_lt_of_lt_mul hb
  have hbb : b = b / cw * cw + b % cw := (Nat.div_add_mod' b cw).symm
  obtain ⟨q, s, n, s2, n2, lv, px, md, bo, pix, mds, su, mn, rfl, rfl, hq, hLR, h1, h2, h3, h4, h5⟩ := h
  obtain ⟨fz, pix', mds', hz, hR⟩ := hR
  have hs : ∀ j, seen cw (b / cw * cw + b % cw) j → px j = oP pix 3 j := by rw [← hbb]; exact h1
  rcases rb_rel hfg (4 * (b % cw)) (4 * (b / cw)) q s n s2 n2 lv px md su mn fz b bo hq hLR hz with ⟨q', s', n', s2', n2', lv', su', mn', lvr', a1, a2, a3, a4, a5⟩ | ⟨er, q', s', n', s2', n2', lv', su', mn', lvr', a0, a1, a2, a3⟩
  · left
    rw [a2] at hR
    have e1 : ri1 f L cw b (0, q, s, n, s2, n2, lv, px, md, b, bo) = rb1 f L (4 * (b % cw)) (4 * (b / cw)) (0, q, s, n, s2, n2, lv, px, md, b, bo) := by
      unfold ri1
      rw [if_pos rfl, a1]
      exact if_pos rfl
    rw [e1, a1]
    rcases hR with ⟨r1, r2, ⟨td, ff, r3, r4, r5⟩, r6⟩ | ⟨r1, _⟩
    · have hn : near px (oP pix 3) (4 * (b % cw)) (4 * (b / cw)) := near_of hcw hcx (by omega) hs
      have hv : ∀ j, j < 16 → clip (cbF px (4 * (b % cw)) (4 * (b / cw)) (tkS g (8 * L) 2 q 0).1 j + ((trT (fun j => lv' j * (1 <<< (f 2 &&& 31))) j + 8) >>> (4 &&& 31))) = td j := by
        intro j hj
        rw [r4 j hj, fo2_cbF, cbF_near hn _ j hj]
        have h6 : trC (trR ff 4) 4 j = trT (fun j => lv' j * (1 <<< (f 2 &&& 31))) j := trT_ag (fun j hj => by rw [r3 j hj, mul_shl, hfg 2 hL, a5 j hj]) j hj
        rw [h6]
      refine ⟨q', s', n', s2', n2', lv', _, _, nI q', pix', mds', su', mn', rfl, r6, a3, a4, ?_, ?_, ?_, ?_, ?_⟩
      · have g1 := put_sim (v := fun j => clip (cbF px (4 * (b % cw)) (4 * (b / cw)) (tkS g (8 * L) 2 q 0).1 j + ((trT (fun j => lv' j * (1 <<< (f 2 &&& 31))) j + 8) >>> (4 &&& 31)))) (w := td) hcw hcx (show b / cw < 3 by omega) hs hv
        rw [← hbb] at g1
        rw [r5]
        exact g1
      · intro j hj hns
        rw [r5, putO_oP, putF_cl (oP pix 3) (by omega) td j 16 (Nat.le_refl 16)]
        by_cases c : 4 * (b / cw) ≤ j / 12 ∧ j / 12 < 4 * (b / cw) + 4 ∧ 4 * (b % cw) ≤ j % 12 ∧ j % 12 < 4 * (b % cw) + 4
        · have := (in_seen hcw hcx hj c).1
          rw [← hbb] at this
          exact absurd this hns
        · rw [if_neg (fun q => c q.1)]
          exact h2 j hj (fun q => hns ⟨q.1, q.2.1, Nat.lt_succ_of_lt q.2.2⟩)
      · intro j hj
        rw [r2]
        by_cases c : j = b
        · subst c; rw [pk_us, pk_us]
        · rw [pk_un c, pk_un (by omega)]; exact h3 j (by omega)
      · intro j hj
        rw [r5, putO_lo pix _ _ td hj 16]; exact h4 j hj
      · intro j hj
        rw [r2, pk_un (by omega)]; exact h5 j hj
    · exact absurd (show (0 : Int32) ≤ 0 by decide) r1
  · right
    rw [a3] at hR
    have he : ¬ er = 0 := by rcases a0 with rfl | rfl <;> decide
    have hl : ¬ er ≤ 0 := by rcases a0 with rfl | rfl <;> decide
    have e1 : ri1 f L cw b (0, q, s, n, s2, n2, lv, px, md, b, bo) = (er, q', s', n', s2', n2', lv', putF px (4 * (b % cw)) (4 * (b / cw)) (fun _ => 128) 16, md, b, bo) := by
      unfold ri1
      rw [if_pos rfl, a2]
      exact if_neg he
    rw [e1]
    rcases hR with ⟨r1, _⟩ | ⟨r1, r2⟩
    · exact absurd r1 hl
    · refine ⟨er, q', s', n', s2', n2', lv', _, md, bo, pix, mds, su', mn', a0, by omega, rfl, r2, ?_, h2, h3, h4, h5⟩
      have g1 := grey_sim (px := px) (pix := pix) (cy := b / cw) (k := b) hcw hcx (by omega) hs h2
      rw [← hbb] at g1
      exact g1
theorem D_all {f g pix0 mds0 : Nat → Int32} {L cw ch : Nat} {m0 : RD} {st0 : DS} (hfg : ∀ j, j < L → f j = g j) (hL : 2 < L) (hcw : cw ≤ 3) (hch : ch ≤ 3) (hc0 : 0 < cw) (h0 : DOk pix0 mds0 L cw 0 m0 st0) : ∀ b, b ≤ cw * ch → ∀ e, DRel g (8 * L) cw (g 2) st0 b e →
    DOk pix0 mds0 L cw b (riS f L cw m0 b) e ∨ ∃ k, DEnd pix0 mds0 cw k b (riS f L cw m0 b) e
  | 0, _, e, h => by
    have h : e = st0 := h
    rw [h]
    exact Or.inl h0
  | b + 1, hb, e', h => by
    obtain ⟨e, h1, h2, h3⟩ := h
    rcases D_all hfg hL hcw hch hc0 h0 b (by omega) e h1 with h4 | ⟨k, h4⟩
    · rcases ok_step hfg hL hcw hch (by omega) h4 h3 with h5 | h5
      · exact Or.inl h5
      · exact Or.inr ⟨b, h5⟩
    · obtain ⟨er, q, s, n, s2, n2, lv, px, md, bo, pix, mds, su, mn, a0, _, _, rfl, _⟩ := h4
      have h2 : er = 0 := h2
      exact absurd h2 (by rcases a0 with rfl | rfl <;> decide)
theorem D_more {f pix0 mds0 : Nat → Int32} {L cw k b : Nat} {m0 : RD} {e : DS} (hc0 : 0 < cw) (hcw : cw ≤ 3) (h : DEnd pix0 mds0 cw k b (riS f L cw m0 b) e) : ∀ d, DEnd pix0 mds0 cw k (b + d) (riS f L cw m0 (b + d)) e
  | 0 => h
  | d + 1 => end_step hc0 hcw (D_more hc0 hcw h d)
