/-! QUESTIONS in the reference: ask, the whole -/
section
variable {W : gW} {G : gG} {S : List gG} {T : tT}
def m47 (t _j : Nat) : Prop := t = 47 ∨ t = 48
def mAskR (W : gW) (G : gG) (T : tT) (r : Int64 × fhM) : Prop := match sQ T with
  | .inl e => r.1 = -1000000000000000 ∧ r.2.1 0 7 = nI e.1 ∧ r.2.1 0 8 = nI e.2
  | .inr x => r.1 = lI (ansQ x.1 (fQ W G x.2) W.g) ∧ r.2.1 0 7 = 0 ∧ r.2.1 0 8 = -1
theorem m_ask204 (hW : wOK W) {q : Nat} (hq : q ≤ 5) {c : gC} (hL : c.length ≤ 1600) {σ : fhM} (hrw : rwM' W σ) (hg : gmM W G.L G.w G.rd σ) (h32 : ∀ i, i < W.g → σ.1 32 (5 + i) = nI (W.sb i)) (h47 : ∀ i, i < W.g → σ.1 47 i = nI (cnv W (rl W.N G.L) i (W.vw G.w i)) ∧ σ.1 48 i = nI (msk W (rl W.N G.L) i (W.vw G.w i))) (hw : 0 < W.g → G.w < W.N) (hr : G.rd ≤ 999) (hS : rS c σ) (hrun : ∀ i, i < W.g → run true W.g (lfQ W (rl W.N G.L) G.w G.rd i) (lkQ W (rl W.N G.L) G.w i) c [] = some [fQ W G c i]) (hbt : q < 3 → ∀ i, bt (fQ W G c i)) (h106 : σ.2.1 0 106 = lI (ansQ q (fQ W G c) 0)) (h107 : σ.1 0 107 = 1) :
    wq (fhlp (fun x => f_X12_ask_204 (nI q) x.1 x.2) ((0 : Int32), σ)) (fun r => r.1 = lI (ansQ q (fQ W G c) W.g) ∧ frl (fun t j => t = 78 ∨ (t = 0 ∧ (j = 51 ∨ j = 105 ∨ j = 106 ∨ j = 107))) σ r.2) := by
  have hg5 := hW.1
  refine wq_for (R := fun k x => ∃ s, x = (nI k, s) ∧ frl (fun t j => t = 78 ∨ (t = 0 ∧ (j = 51 ∨ j = 105 ∨ j = 106 ∨ j = 107))) σ s ∧ s.2.1 0 106 = lI (ansQ q (fQ W G c) k) ∧ s.1 0 107 = nI (if k = 0 then 1 else 0) ∧ ∀ i, i < k → bnd (fQ W G c i)) 0 W.g (Nat.zero_le _) ?_ ?_ ⟨σ, rfl, frl_rf, h106, h107, fun i hi => absurd hi (Nat.not_lt_zero _)⟩
  · rintro k x - hk ⟨s, rfl, hf, h6, h7, hb⟩
    (try dsimp only)
    unfold f_X12_ask_204 f_X12_guestMany
    have e : ∀ t j, ¬ (t = 78 ∨ (t = 0 ∧ (j = 51 ∨ j = 105 ∨ j = 106 ∨ j = 107))) → (fhI s 0 51 (nI k)).1 t j = σ.1 t j := fun t j h => by
      rw [fhI_r, if_neg (by omega)]
      exact (hf.1 t j h).1
    have hrw1 : rwM' W (fhI s 0 51 (nI k)) := ⟨by rw [e _ _ (by omega)]; exact hrw.1, by rw [e _ _ (by omega)]; exact hrw.2.1, by rw [e _ _ (by omega)]; exact hrw.2.2.1, fun r i a b => by rw [e _ _ (by omega)]; exact hrw.2.2.2 r i a b⟩
    have hl := m_leafQ hW (L := G.L) (w0 := G.w) (rd := G.rd) (i := k) hrw1 (by rw [e _ _ (by omega)]; exact hg.2.2) (by rw [e _ _ (by omega)]; exact hg.2.1) fhI_e (by rw [e _ _ (by omega)]; exact (h47 k hk).1) (by rw [e _ _ (by omega)]; exact (h47 k hk).2) (fun i hi => by rw [e _ _ (by omega)]; exact h32 i hi) (hw (by omega)) hk hr
    have hS1 : rS c (fhI s 0 51 (nI k)) := rS_fr hS (e _ _ (by omega)) (fun i => e _ _ (by omega))
    rw [(hf.1 29 6 (by omega)).1, hrw.2.1, if_neg (nI_ge hk (by omega)), wq_bind]
    refine wq_mono (m_told hg5 hl hS1 hL (hrun k hk)) ?_
    rintro ⟨v, s2⟩ ⟨hv, hvb, gg, hs2⟩
    have hv : v = lI (fQ W G c k) := hv
    have hs2 : s2 = mst (fhI s 0 51 (nI k)) 1 gg := hs2
    unfold fhlet
    (try dsimp only)
    have m6 : s2.2.1 0 106 = lI (ansQ q (fQ W G c) k) := by
      rw [hs2]
      unfold mst
      rw [fhV_o (by decide)]
      exact h6
    have m7 : s2.1 0 107 = nI (if k = 0 then 1 else 0) := by
      rw [hs2, mst_1 (Or.inr (by decide)), fhI_s (by decide)]
      exact h7
    have hbk : ∀ i, i ≤ k → bnd (fQ W G c i) := fun i hi => by
      rcases Nat.lt_or_ge i k with y | y
      · exact hb i y
      · have : i = k := by omega
        rw [this]
        exact hvb
    rw [hv, m_qTakes hq (by omega) hbk (fun z => hbt z k) m6 m7, nI_1, wq_some, fhK_l]
    refine ⟨_, rfl, ?_, ?_, ?_, fun i hi => hbk i (by omega)⟩
    · have f2 : frl (fun t j => t = 78 ∨ (t = 0 ∧ (j = 51 ∨ j = 105 ∨ j = 106 ∨ j = 107))) σ s2 := by
        rw [hs2]
        exact frl_st (frl_I hf (by omega)) (by omega) (fun j => by omega)
      exact frl_I (frl_J f2 (by omega)) (by omega)
    · rw [show ∀ (a : fhM), (fhI a 0 107 (0 : Int32)).2.1 0 106 = a.2.1 0 106 from fun _ => rfl, fhJ_e]
    · rw [fhI_e, if_neg (by omega)]
      rfl
  · rintro x ⟨s, rfl, hf, h6, h7, hb⟩
    (try dsimp only)
    unfold f_X12_ask_204 f_X12_guestMany
    rw [(hf.1 29 6 (by omega)).1, hrw.2.1, if_pos (nI_le (Nat.le_refl _) (by omega)), wq_some, fhK_r]
    exact ⟨h6, hf⟩
theorem m_ask173 (hW : wOK W) {q : Nat} (hq : q ≤ 5) {c : gC} (hL : c.length ≤ 1600) {σ : fhM} (hrw : rwM' W σ) (hg : gmM W G.L G.w G.rd σ) (h32 : ∀ i, i < W.g → σ.1 32 (5 + i) = nI (W.sb i)) (hw : 0 < W.g → G.w < W.N) (hr : G.rd ≤ 999) (hS : rS c σ) (hrun : ∀ i, i < W.g → run true W.g (lfQ W (rl W.N G.L) G.w G.rd i) (lkQ W (rl W.N G.L) G.w i) c [] = some [fQ W G c i]) (hbt : q < 3 → ∀ i, bt (fQ W G c i)) :
    wq (f_X12_ask_173 (nI q) (if (2 : Int32) ≤ nI q then (0 : Int64) else (-1 : Int64)) σ) (fun r => r.1 = lI (ansQ q (fQ W G c) W.g) ∧ frl (fun t j => t = 47 ∨ t = 48 ∨ t = 78 ∨ (t = 0 ∧ (j = 51 ∨ j = 105 ∨ j = 106 ∨ j = 107))) σ r.2) := by
  have hg5 := hW.1
  have e0 : (if (2 : Int32) ≤ nI q then (0 : Int64) else (-1 : Int64)) = lI (ansQ q (fQ W G c) 0) := by
    have hq2 : q = 0 ∨ q = 1 ∨ q = 2 ∨ q = 3 ∨ q = 4 ∨ q = 5 := by omega
    rcases hq2 with rfl | rfl | rfl | rfl | rfl | rfl
    · exact (by decide : (if (2 : Int32) ≤ nI 0 then (0 : Int64) else (-1 : Int64)) = lI (-1))
    · exact (by decide : (if (2 : Int32) ≤ nI 1 then (0 : Int64) else (-1 : Int64)) = lI (-1))
    · exact (by decide : (if (2 : Int32) ≤ nI 2 then (0 : Int64) else (-1 : Int64)) = lI 0)
    · exact (by decide : (if (2 : Int32) ≤ nI 3 then (0 : Int64) else (-1 : Int64)) = lI 0)
    · exact (by decide : (if (2 : Int32) ≤ nI 4 then (0 : Int64) else (-1 : Int64)) = lI 0)
    · exact (by decide : (if (2 : Int32) ≤ nI 5 then (0 : Int64) else (-1 : Int64)) = lI 0)
  unfold f_X12_ask_173
  rw [e0]
  have f0 : frl (fun t j => t = 47 ∨ t = 48 ∨ t = 78 ∨ (t = 0 ∧ (j = 51 ∨ j = 105 ∨ j = 106 ∨ j = 107))) σ (fhI (fhJ σ 0 106 (lI (ansQ q (fQ W G c) 0))) 0 107 (1 : Int32)) := frl_I (frl_J frl_rf (by omega)) (by omega)
  have e1 : ∀ t j, (t ≠ 0 ∨ j ≠ 107) → (fhI (fhJ σ 0 106 (lI (ansQ q (fQ W G c) 0))) 0 107 (1 : Int32)).1 t j = σ.1 t j := fun t j h => by
    rw [fhI_r, if_neg (by omega)]
    rfl
  have e106 : (fhI (fhJ σ 0 106 (lI (ansQ q (fQ W G c) 0))) 0 107 (1 : Int32)).2.1 0 106 = lI (ansQ q (fQ W G c) 0) := fhJ_e
  have e107 : (fhI (fhJ σ 0 106 (lI (ansQ q (fQ W G c) 0))) 0 107 (1 : Int32)).1 0 107 = 1 := fhI_e
  generalize fhI (fhJ σ 0 106 (lI (ansQ q (fQ W G c) 0))) 0 107 (1 : Int32) = s1 at f0 e1 e106 e107
  refine wq_for (R := fun k x => ∃ s, x = (nI k, s) ∧ fr m47 s1 s ∧ ∀ i, i < k → s.1 47 i = nI (cnv W (rl W.N G.L) i (W.vw G.w i)) ∧ s.1 48 i = nI (msk W (rl W.N G.L) i (W.vw G.w i))) 0 W.g (Nat.zero_le _) ?_ ?_ ⟨s1, rfl, fr_rf, fun i hi => absurd hi (Nat.not_lt_zero _)⟩
  · rintro k x - hk ⟨s, rfl, hf, hi⟩
    (try dsimp only)
    unfold f_X12_ask_183 f_X12_guestMany
    have e : ∀ t j, t ≠ 47 → t ≠ 48 → (t ≠ 0 ∨ j ≠ 107) → s.1 t j = σ.1 t j := fun t j a b c => by
      rw [hf.2 t j (by unfold m47; omega), e1 t j c]
    have hrw1 : rwM' W s := ⟨by rw [e _ _ (by decide) (by decide) (by decide)]; exact hrw.1, by rw [e _ _ (by decide) (by decide) (by decide)]; exact hrw.2.1, by rw [e _ _ (by decide) (by decide) (by decide)]; exact hrw.2.2.1, fun r i a b => by rw [e _ _ (by decide) (by decide) (Or.inl (by decide))]; exact hrw.2.2.2 r i a b⟩
    have hL1 : lfM G.L s := fun r hr => by rw [e _ _ (by decide) (by decide) (Or.inl (by decide))]; exact hg.1 r hr
    rw [hrw1.2.1, if_neg (nI_ge hk (by omega)), wq_bind]
    refine wq_mono (m_laysOwn hW hrw1 hL1 (w0 := G.w) (by rw [e _ _ (by decide) (by decide) (by decide)]; exact hg.2.1) (hw (by omega)) hk) ?_
    rintro s2 rfl
    rw [nI_1, wq_some, fhK_l]
    refine ⟨_, rfl, fr_I (fr_I hf (Or.inl rfl)) (Or.inr rfl), fun i hi2 => ?_⟩
    by_cases y : i = k
    · rw [y, fhI_o (show 47 ≠ 48 by decide), fhI_e, fhI_e]
      exact ⟨rfl, rfl⟩
    · rw [fhI_o (show 47 ≠ 48 by decide), fhI_s y, fhI_s y, fhI_o (show 48 ≠ 47 by decide)]
      exact hi i (by omega)
  · rintro x ⟨s, rfl, hf, hi⟩
    (try dsimp only)
    unfold f_X12_ask_183 f_X12_guestMany
    have e : ∀ t j, t ≠ 47 → t ≠ 48 → (t ≠ 0 ∨ j ≠ 107) → s.1 t j = σ.1 t j := fun t j a b c => by
      rw [hf.2 t j (by unfold m47; omega), e1 t j c]
    have hrw1 : rwM' W s := ⟨by rw [e _ _ (by decide) (by decide) (by decide)]; exact hrw.1, by rw [e _ _ (by decide) (by decide) (by decide)]; exact hrw.2.1, by rw [e _ _ (by decide) (by decide) (by decide)]; exact hrw.2.2.1, fun r i a b => by rw [e _ _ (by decide) (by decide) (Or.inl (by decide))]; exact hrw.2.2.2 r i a b⟩
    have hg1 : gmM W G.L G.w G.rd s := ⟨fun r hr => by rw [e _ _ (by decide) (by decide) (Or.inl (by decide))]; exact hg.1 r hr, by rw [e _ _ (by decide) (by decide) (by decide)]; exact hg.2.1, by rw [e _ _ (by decide) (by decide) (by decide)]; exact hg.2.2⟩
    rw [hrw1.2.1, if_pos (nI_le (Nat.le_refl _) (by omega)), wq_map]
    refine wq_mono (m_ask204 hW hq hL hrw1 hg1 (fun i hi => by rw [e _ _ (by decide) (by decide) (Or.inl (by decide))]; exact h32 i hi) hi hw hr (rS_fr hS (e _ _ (by decide) (by decide) (by decide)) (fun i => e _ _ (by decide) (by decide) (Or.inl (by decide)))) hrun hbt (by rw [hf.1]; exact e106) (by rw [hf.2 0 107 (by unfold m47; omega)]; exact e107)) ?_
    rintro r ⟨h1, h2⟩
    rw [fhK_r]
    refine ⟨h1, frl_tr (frl_tr f0 (frl_r hf (fun t j z => ?_))) (frl_mo h2 (fun t j z => ?_))⟩
    · unfold m47 at z
      omega
    · omega
end
