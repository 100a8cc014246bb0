/-! coding, block by block, on both sides -/
def Sim (pix0 : Nat → Int32) (cw b : Nat) (m : MD) (e : ES) : Prop :=
  (∀ j, j < 432 → e.1 j = pix0 j) ∧ (∀ j, seen cw b j → m.1 j = oP e.1 3 j) ∧ (∀ j, j < b → m.2.1 j = e.2.1 j) ∧ SR m.2.2.1 m.2.2.2.1 m.2.2.2.2.1 m.2.2.2.2.2.1 m.2.2.2.2.2.2.1 m.2.2.2.2.2.2.2.1 (e.2.2.1, e.2.2.2.1, e.2.2.2.2.1, e.2.2.2.2.2.1) ∧
  m.2.2.2.2.2.2.2.2.1 = e.2.2.2.2.2.2.1 ∧ m.2.2.2.2.2.2.2.2.2 = e.2.2.2.2.2.2.2 ∧ ¬ e.2.2.2.2.2.2.2 < 0 ∧ PX e.1
theorem fo2_cbF (pix : Nat → Int32) (x y : Nat) (way : Int32) (j : Nat) : fo2 y x (abv pix x y) (lft pix x y) (crn pix x y) way (j % 4) (j / 4) = cbF pix x y way j := by
  unfold fo2 cbF foreB
  rfl
theorem Sim_step {po pix0 : Nat → Int32} {cw ch b : Nat} {q : Int32} (hcw : cw ≤ 3) (hch : ch ≤ 3) (hb : b < cw * ch) (hq : coarP q) (h0 : ∀ j, j < 144 → po j = oP pix0 0 j) {m : MD} {e e' : ES} (h : Sim pix0 cw b m e) (hR : codeR (4 * (b % cw)) (4 * (b / cw)) b q e e') : Sim pix0 cw (b + 1) (md1 po cw q b m) e' := by
  have hc0 : 0 < cw := by
    rcases Nat.eq_zero_or_pos cw with z | z
    · rw [z, Nat.zero_mul] at hb; omega
    · exact z
  have hcx : b % cw < cw := Nat.mod_lt b hc0
  have hcy : b / cw < ch := Nat.div_lt_of_lt_mul hb
  have hbb : b = b / cw * cw + b % cw := (Nat.div_add_mod' b cw).symm
  obtain ⟨pd, md, f, n, s, sn, s2, sn2, nz, gr⟩ := m
  obtain ⟨pix, nmd, lad, nb, su, mn, ile, igr⟩ := e
  obtain ⟨k1, k2, k3, k4, k5, k6, k7, k8⟩ := h
  have k1 : ∀ j, j < 432 → pix j = pix0 j := k1
  have k2 : ∀ j, seen cw b j → pd j = oP pix 3 j := k2
  have k3 : ∀ j, j < b → md j = nmd j := k3
  have k4 : SR f n s sn s2 sn2 (lad, nb, su, mn) := k4
  have k5 : nz = ile := k5
  have k6 : gr = igr := k6
  have k7 : ¬ igr < 0 := k7
  have k8 : PX pix := k8
  subst k5 k6
  unfold md1
  obtain ⟨wk, lv, td, ⟨f0, hf0, rfl⟩, hlv, ⟨f1, hf1, htd⟩, rfl⟩ := hR
  generalize b % cw = cx at hcx hbb hf0 hlv hf1 htd ⊢
  generalize b / cw = cy at hcy hbb hf0 hlv hf1 htd ⊢
  have hx : 4 * cx + 4 ≤ 12 := by omega
  have hy : 4 * cy + 4 ≤ 12 := by omega
  have hpo : ∀ j, j < 144 → po j = oP pix 0 j := fun j hj => by
    rw [h0 j hj]
    unfold oP
    exact (k1 (144 * 0 + j) (by omega)).symm
  have hs : ∀ j, seen cw (cy * cw + cx) j → pd j = oP pix 3 j := by rw [← hbb]; exact k2
  have hn : near pd (oP pix 3) (4 * cx) (4 * cy) := near_of hcw hcx (by omega) hs
  have hB : cbB po pd (4 * cx) (4 * cy) = cgB pix (4 * cx) (4 * cy) := cbB_eq hpo hn hx hy k8
  have hwb := wkG_bd k8 hx hy hf0
  have hL : ∀ j, j < 16 → lv j = cbL po pd (4 * cx) (4 * cy) q j := by
    intro j hj
    rw [hlv j hj, lvG_eq hq (hwb j hj)]
    unfold cbL
    rw [hB]
    exact congrArg (lvQ q) (trT_ag (fun j hj => by rw [hf0 j hj, dfC_eq, hpo _ (by omega), cbF_near hn _ j hj]) j hj)
  have hst := stGL hq hwb hlv nz gr 16 (Nat.le_refl 16)
  have hup := upTo_stL lv nz gr 16
  have hu16 := upTo_le lv 16
  -- the writing
  have hSR0 : SR (wrF (nI (upTo lv 16)) 5 (wrF (nI (cgB pix (4 * cx) (4 * cy))) 2 f n) (n + 2)) (n + 2 + 5) s sn s2 sn2 (pwF (nI (upTo lv 16)) 5 (pwF (nI (cgB pix (4 * cx) (4 * cy))) 2 lad nb) (nb + 2), nb + 2 + 5, su, mn) := by
    obtain ⟨a1, a2, a3⟩ := k4
    have a2 : n = nb := a2
    subst a2
    exact ⟨bits8_F _ 5 (bits8_F _ 2 a1), rfl, a3⟩
  obtain ⟨f', n', s', sn', s2', sn2', nz', gr', hw, hSR⟩ := SR_F lv (upTo lv 16) 0 (nz := nz) (gr := gr) hSR0
  have hcs : cbS po pd (4 * cx) (4 * cy) q (f, n, s, sn, s2, sn2, nz, gr) = (f', n', s', sn', s2', sn2', nz', gr') := by
    rw [← hw, cbS, ← wlS_ag hL, hB]
    rfl
  have hcn : (nz', gr') = (stL lv nz gr 16).2 := by
    have h1 := wlF_st lv nz gr (upTo lv 16) 0 (wrF (nI (upTo lv 16)) 5 (wrF (nI (cgB pix (4 * cx) (4 * cy))) 2 f n) (n + 2)) (n + 2 + 5) s sn s2 sn2 nz gr rfl
    rw [hw] at h1
    have h2 := stL_tail (lv := lv) nz k7 (upTo lv 16) (16 - upTo lv 16) (fun j a b => upTo_zero lv 16 j a (by omega))
    rw [show upTo lv 16 + (16 - upTo lv 16) = 16 by omega] at h2
    rw [Nat.zero_add] at h1
    exact h1.trans h2.symm
  have hnz : nz' = (stL lv nz gr 16).2.1 := congrArg Prod.fst hcn
  have hgr : gr' = (stL lv nz gr 16).2.2 := congrArg Prod.snd hcn
  rw [hst, ← hup]
  show Sim pix0 cw (b + 1) (cbP po pd (4 * cx) (4 * cy) q, upd md b (nI (cbB po pd (4 * cx) (4 * cy))), cbS po pd (4 * cx) (4 * cy) q (f, n, s, sn, s2, sn2, nz, gr)) _
  rw [hcs, hB]
  refine ⟨?_, ?_, ?_, ?_, ?_, ?_, ?_, ?_⟩
  · intro j hj
    exact (putO_lo pix _ _ td hj 16).trans (k1 j hj)
  · show ∀ j, seen cw (b + 1) j → cbP po pd (4 * cx) (4 * cy) q j = oP (putO 3 pix (4 * cx) (4 * cy) td 16) 3 j
    rw [hbb]
    unfold cbP rbP
    refine put_sim hcw hcx (by omega) hs ?_
    intro j hj
    rw [htd j hj, fo2_cbF, hB, cbF_near hn _ j hj]
    have h5 : trC (trR f1 4) 4 j = trT (fun j => cbL po pd (4 * cx) (4 * cy) q j * (1 <<< (q &&& 31))) j := trT_ag (fun j hj => by rw [hf1 j hj, mul_shl, hL j hj]) j hj
    rw [h5]
  · intro j hj
    show upd md b _ j = upd nmd b _ j
    by_cases c : j = b
    · subst c; rw [pk_us, pk_us]
    · rw [pk_un c, pk_un c]; exact k3 j (by omega)
  · exact hSR
  · exact hnz
  · exact hgr
  · exact stL_nn nz k7 16
  · refine PX_putO k8 16 (Nat.le_refl 16) (fun j hj => ?_)
    rw [htd j hj]
    exact sm_clip _
theorem Sim_all {po pix0 : Nat → Int32} {cw ch : Nat} {q : Int32} (hcw : cw ≤ 3) (hch : ch ≤ 3) (hq : coarP q) (h0 : ∀ j, j < 144 → po j = oP pix0 0 j) {m : MD} {st0 : ES} (hS : Sim pix0 cw 0 m st0) : ∀ b, b ≤ cw * ch → ∀ e, ERel cw q st0 b e → Sim pix0 cw b (mdS po cw q m b) e
  | 0, _, e, h => by
    have h : e = st0 := h
    rw [h]
    exact hS
  | b + 1, hb, e, h => by
    obtain ⟨st, h1, h2⟩ := h
    exact Sim_step hcw hch (by omega) hq h0 (Sim_all hcw hch hq h0 hS b (by omega) st h1) h2
theorem codeR_ex (x y ix : Nat) (q : Int32) (st : ES) : ∃ st', codeR x y ix q st st' := by
  obtain ⟨pix, nmd, lad, nb, su, mn, ile, igr⟩ := st
  exact ⟨_, _, _, _, ⟨_, fun _ _ => rfl, rfl⟩, fun _ _ => rfl, ⟨_, fun _ _ => rfl, fun _ _ => rfl⟩, rfl⟩
theorem ERel_ex (cw : Nat) (q : Int32) (st0 : ES) : ∀ b, ∃ st, ERel cw q st0 b st
  | 0 => ⟨st0, rfl⟩
  | b + 1 => by
    obtain ⟨st, h⟩ := ERel_ex cw q st0 b
    obtain ⟨st', h2⟩ := codeR_ex (4 * (b % cw)) (4 * (b / cw)) b q st
    exact ⟨st', st, h, h2⟩
/-- the head, and the start -/
theorem bits8_0 {f g : Nat → Int32} (h : ∀ j, j < 400 → f j = 0) : bits8 f g 0 := ⟨fun i _ h2 => absurd h2 (by omega), fun i h1 _ => h i h1⟩
theorem Sim_0 {pix nmd md px0 bt0 lad su0 mn0 : Nat → Int32} {cw ch : Nat} {q : Int32} (hp : PX pix) (hb : ∀ j, j < 400 → bt0 j = 0) (hs : ∀ j, j < 2 → su0 j = 8) (hm : ∀ j, j < 2 → mn0 j = 1) :
    Sim pix cw 0 (px0, md, wrF q 8 (wrF (nI ch) 8 (wrF (nI cw) 8 bt0 0) 8) 16, 24, 8, 1, 8, 1, 0, 0) (pix, nmd, pwF q 8 (pwF (nI ch) 8 (pwF (nI cw) 8 lad 0) (0 + 8)) (0 + 8 + 8), 24, su0, mn0, 0, 0) := by
  refine ⟨fun _ _ => rfl, fun j hj => absurd hj.2.2 (by omega), fun j hj => absurd hj (by omega), ⟨?_, rfl, hs 0 (by decide), hm 0 (by decide), hs 1 (by decide), hm 1 (by decide), ⟨1, by decide, rfl⟩, ⟨1, by decide, rfl⟩⟩, rfl, rfl, by show ¬ (0 : Int32) < 0; decide, hp⟩
  exact bits8_F q 8 (bits8_F (nI ch) 8 (bits8_F (nI cw) 8 (bits8_0 hb)))
