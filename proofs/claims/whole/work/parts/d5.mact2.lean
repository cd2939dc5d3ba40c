/-! ACTIONS, the reference: what is said, told, a round -/
theorem and_bit : ∀ a, a < 32 → ∀ i, i < 5 → (a &&& 2 ^ i) / 2 ^ i = if a.testBit i = true then 1 else 0 := by decide +kernel
theorem kb_ltg {W : gW} (l : List Nat) (r : Nat) : kb W l r < 2 ^ W.g := kbN_lt W l r W.g
def mkM (o : Option Nat) : Nat := match o with
  | none => 31
  | some i => 31 &&& (31 ^^^ 2 ^ i)
theorem kb_mk {W : gW} (hW : wOK W) (l : List Nat) (r : Nat) (o : Option Nat) : kb W l r &&& mkM o = kb W l r &&& mkR W o := by
  have h1 := kb_ltg (W := W) l r
  have h2 := kb_lt hW l r
  have e1 : kb W l r &&& 31 = kb W l r := by
    rw [show kb W l r &&& 31 = kb W l r % 32 from Nat.and_two_pow_sub_one_eq_mod _ 5]
    omega
  have e2 : kb W l r &&& (2 ^ W.g - 1) = kb W l r := by
    rw [Nat.and_two_pow_sub_one_eq_mod, Nat.mod_eq_of_lt h1]
  cases o with
  | none =>
    show kb W l r &&& 31 = kb W l r &&& (2 ^ W.g - 1)
    rw [e1, e2]
  | some i =>
    show kb W l r &&& (31 &&& (31 ^^^ 2 ^ i)) = kb W l r &&& ((2 ^ W.g - 1) &&& (31 ^^^ 2 ^ i))
    rw [← Nat.and_assoc, ← Nat.and_assoc, e1, e2]
theorem gRnd_mk {W : gW} (hW : wOK W) (G : gG) (o : Option Nat) : gRnd W G (mkM o) = gRnd W G (mkR W o) := by
  have e : alk (kb W (rl W.N G.L)) (mkM o) G.w = alk (kb W (rl W.N G.L)) (mkR W o) G.w := by
    funext r
    unfold alk
    rw [kb_mk hW, kb_mk hW]
  unfold gRnd
  rw [e, kb_mk hW]
section
variable {W : gW} {G : gG} {S : List gG} {σ : fhM}
theorem stkM_a {s : fhM} {x : Nat} (h : stkM S x σ) (h51 : ∀ j, s.1 51 j = σ.1 51 j) (h1 : s.1 0 71 = σ.1 0 71) (h2 : s.1 0 72 = σ.1 0 72) : stkM S x s := by
  obtain ⟨s1, hx, s2, hl, hs⟩ := h
  refine ⟨by rw [h2]; exact s1, hx, by rw [h1]; exact s2, hl, fun k G2 hk => ?_⟩
  refine tbM_c (hs k G2 hk) (fun j _ => ?_)
  exact h51 _
theorem m_noted (hW : wOK W) {L2 : Nat → Bool} {rd2 : Nat} (h1 : mtb W σ) (hL : lfM L2 σ) (hw : σ.1 44 1 = nI G.w) (h0 : σ.1 44 0 = nI rd2) (hK : kpM (lst40 G.H) σ) (hst : ∃ x, stkM S x σ) (h62 : σ.1 0 62 = 0) (hi : lin W L2) {a b c : Nat} : wq (f_X12_isKept (nI a) (nI b) (nI c) σ) (fun s => mGm W (rd2, G.w, L2, G.H ++ [(a, b, c, (rl W.N L2).length)]) S s ∧ fr aDm σ s) := by
  refine wq_mono (m_kept hW hL hi hK h62) (fun s z => ?_)
  obtain ⟨n, rfl, hn, hk⟩ := z
  rw [ad40_lst] at hk
  have hfr : fr aDm σ (fhU σ 44 n) := fr_U fr_rf (fun j => by unfold aDm; omega)
  have e44 : ∀ j, (fhU σ 44 n).1 44 j = n j := fun j => fhU_e
  obtain ⟨x, hx⟩ := hst
  refine ⟨⟨mtb_a h1 hfr, ⟨?_, ?_, fun r hr => ?_, hk.1, hk.2.2⟩, ⟨x, stkM_a hx (fun j => fhU_o (by decide)) (fhU_o (by decide)) (fhU_o (by decide))⟩, by rw [fhU_o (by decide)]; exact h62⟩, hfr⟩
  · rw [e44, hn _ (by omega)]; exact h0
  · rw [e44, hn _ (by omega)]; exact hw
  · rw [e44, hn _ (by omega)]; exact hL r hr
theorem kpM_a {K : List kE} {s : fhM} (h : kpM K σ) (he : ∀ j, 1026 ≤ j → s.1 44 j = σ.1 44 j) : kpM K s := by
  obtain ⟨h1, h2, h3⟩ := h
  exact ⟨by rw [he _ (by omega)]; exact h1, h2, fun k e hk => by rw [he _ (by omega), he _ (by omega), he _ (by omega), he _ (by omega)]; exact h3 k e hk⟩
/-- leaving as those in the mask show -/
theorem m_lvs (hW : wOK W) (hg : mGm W G S σ) (hw : G.w ∈ rl W.N G.L) (hi : lin W G.L) {mk : Nat} (hm : mk < 1024) : wq (f_X12_leavesAs (nI mk) σ) (fun r => r.1 = nI (kb W (rl W.N G.L) G.w &&& mk) ∧ mtb W r.2 ∧ lfM (kpt (alk (kb W (rl W.N G.L)) mk G.w) G.L) r.2 ∧ r.2.1 44 1 = nI G.w ∧ r.2.1 44 0 = nI G.rd ∧ kpM (lst40 G.H) r.2 ∧ (∃ x, stkM S x r.2) ∧ r.2.1 0 62 = 0 ∧ fr aDm σ r.2) := by
  obtain ⟨h1, h2, ⟨x, hx⟩, h62⟩ := hg
  obtain ⟨g1, g2⟩ := tbM_g (W := W) h2
  refine wq_mono (m_leavesAs hW h1.1 g1 hi hw hm) (fun r z => ?_)
  obtain ⟨z1, t, u, n, z2, z3, z4⟩ := z
  have hfr : fr aDm σ r.2 := by
    rw [z2]
    exact fr_U (fr_U (fr_U fr_rf (fun j => by unfold aDm; omega)) (fun j => by unfold aDm; omega)) (fun j => by unfold aDm; omega)
  have e44 : ∀ j, r.2.1 44 j = n j := fun j => by rw [z2, fhU_e]
  have eo : ∀ a j, a ≠ 44 → a ≠ 42 → a ≠ 46 → r.2.1 a j = σ.1 a j := fun a j x y z => by rw [z2, fhU_o x, fhU_o y, fhU_o z]
  refine ⟨z1, mtb_a h1 hfr, fun r hr => by rw [e44]; exact z3 r hr, by rw [e44, z4 _ (by omega)]; exact g1.2.1, by rw [e44, z4 _ (by omega)]; exact g1.2.2, kpM_a g2 (fun j hj => by rw [e44, z4 _ (by omega)]), ⟨x, stkM_a hx (fun j => eo _ _ (by decide) (by decide) (by decide)) (eo _ _ (by decide) (by decide) (by decide)) (eo _ _ (by decide) (by decide) (by decide))⟩, by rw [eo _ _ (by decide) (by decide) (by decide)]; exact h62, hfr⟩
theorem m_says (hW : wOK W) (hg : mGm W G S σ) (hw : G.w ∈ rl W.N G.L) (hi : lin W G.L) {i : Nat} (hig : i < W.g) : wq (f_X12_says (nI i) σ) (fun r => r.1 = bI (one (msk W (rl W.N G.L) i (W.vw G.w i))) ∧ mGm W (gSay W G i) (psh G S) r.2 ∧ fr aDm σ r.2) := by
  have hg5 := hW.1
  have hp : 2 ^ i ≤ 2 ^ 5 := Nat.pow_le_pow_right (by decide) (by omega)
  have hk := kb_lt hW (rl W.N G.L) G.w
  have hbit : (kb W (rl W.N G.L) G.w &&& 2 ^ i) / 2 ^ i = if one (msk W (rl W.N G.L) i (W.vw G.w i)) = true then 1 else 0 := by
    rw [and_bit _ hk i (by omega), show (kb W (rl W.N G.L) G.w).testBit i = (decide (i < W.g) && one (msk W (rl W.N G.L) i (W.vw G.w i))) from kbN_bit W _ G.w W.g i, decide_eq_true hig, Bool.true_and]
  have hle : kb W (rl W.N G.L) G.w &&& 2 ^ i ≤ kb W (rl W.N G.L) G.w := Nat.and_le_left
  unfold f_X12_says
  rw [if_pos (by rw [m_isG _ (by omega) hg.1.1.2.1, inB_n (by omega)]; exact hig), wq_bind]
  refine wq_mono (m_saved hg) (fun s z => ?_)
  obtain ⟨z1, z2⟩ := z
  rw [ph_shl1 (by omega), wq_bind]
  refine wq_mono (m_lvs hW z1 hw hi (mk := 2 ^ i) (by omega)) (fun r y => ?_)
  obtain ⟨y1, y2, y3, y4, y5, y6, y7, y8, y9⟩ := y
  rw [y1, ph_shr (by omega) (by omega), hbit, wq_bind, show (1 : Int32) = nI 1 from rfl]
  refine wq_mono (m_noted (G := G) hW y2 y3 y4 y5 y6 y7 y8 (lin_k hi)) (fun s2 x => ?_)
  rw [wq_some]
  exact ⟨rfl, x.1, fr_tr z2 (fr_tr y9 x.2)⟩
theorem m_rgo (hW : wOK W) (hg : mGm W G S σ) (hw : G.w ∈ rl W.N G.L) (hi : lin W G.L) {mk : Nat} (hm : mk < 1024) : wq (f_X12_roundGoes (nI mk) σ) (fun r => r.1 = nI (kb W (rl W.N G.L) G.w &&& mk) ∧ mGm W (gRnd W G mk) S r.2 ∧ fr aDm σ r.2) := by
  unfold f_X12_roundGoes
  rw [wq_bind]
  refine wq_mono (m_lvs hW hg hw hi hm) (fun r y => ?_)
  obtain ⟨y1, y2, y3, y4, y5, y6, ⟨x, y7⟩, y8, y9⟩ := y
  have hfr : fr aDm r.2 (fhI r.2 44 0 (nI (G.rd + 1))) := fr_I fr_rf (by unfold aDm; omega)
  rw [y5, nI_1, y1, show (0 : Int32) = nI 0 from rfl, wq_bind]
  refine wq_mono (m_noted (G := G) (S := S) (rd2 := G.rd + 1) hW (mtb_a y2 hfr) (L2 := kpt (alk (kb W (rl W.N G.L)) mk G.w) G.L) (fun r2 hr => by rw [fhI_s (by omega)]; exact y3 r2 hr) (by rw [fhI_s (by decide)]; exact y4) fhI_e (kpM_a y6 (fun j hj => by rw [fhI_s (by omega)])) ⟨x, stkM_a y7 (fun j => fhI_o (by decide)) (fhI_o (by decide)) (fhI_o (by decide))⟩ (by rw [fhI_o (by decide)]; exact y8) (lin_k hi)) (fun s2 x2 => ?_)
  rw [wq_some]
  exact ⟨rfl, x2.1, fr_tr y9 (fr_tr hfr x2.2)⟩
theorem m_roundA (hW : wOK W) (hg : mGm W G S σ) (hw : G.w ∈ rl W.N G.L) (hi : lin W G.L) (h47 : ¬ σ.1 0 47 = 0) (hr : G.rd < 999) : wq (f_X12_round σ) (fun r => r.1 = nI (kb W (rl W.N G.L) G.w &&& mkR W none) ∧ mGm W (gRnd W G (mkR W none)) (psh G S) r.2 ∧ fr aDm σ r.2) := by
  unfold f_X12_round
  rw [if_neg h47, hg.2.1.1, show (999 : Int32) = nI 999 from rfl, if_neg (fun z => by have := (nI_eq (by omega) (by omega)).mp z; omega), wq_bind]
  refine wq_mono (m_saved hg) (fun s z => ?_)
  rw [wq_bind, show (31 : Int32) = nI 31 from rfl]
  refine wq_mono (m_rgo hW z.1 hw hi (mk := 31) (by decide)) (fun r y => ?_)
  rw [wq_some]
  obtain ⟨y1, y2, y3⟩ := y
  rw [show gRnd W G 31 = gRnd W G (mkR W none) from gRnd_mk hW G none] at y2
  rw [show kb W (rl W.N G.L) G.w &&& 31 = kb W (rl W.N G.L) G.w &&& mkR W none from kb_mk hW _ _ none] at y1
  exact ⟨y1, y2, fr_tr z.2 y3⟩
end
