/-! QUESTIONS in the reference: ask -/
section
variable {W : gW} {G : gG} {S : List gG} {T : tT}
theorem fQ_bt {c : gC} {q j : Nat} (h : rd T true [] rdN (if q < 3 then 0 else 3) 0 1 = some (.inr (j, c))) (hq : q < 3) (i : Nat) : bt (fQ W G c i) := by
  rw [if_pos hq] at h
  exact (evc_T (Nat.zero_le _) h).1
theorem m_ask (hW : wOK W) (hT : tOK T) {σ : fhM} (hg : mGm W G S σ) (hw : 0 < W.g → G.w < W.N) (hr : G.rd ≤ 999) (h1 : σ.1 0 1 = nI T.2) (hx : ∀ i, i < T.2 → σ.1 1 i = nI (T.1 i)) (hwd : mW σ) (h47 : ¬ σ.1 0 47 = 0) : wq (f_X12_ask σ) (fun r => mAskR W G T r ∧ r.2.1 0 1 = 0 ∧ frl aqM σ r.2) := by
  obtain ⟨hm, htm, -, -⟩ := hg
  have hgm := (tbM_g (W := W) htm).1
  unfold f_X12_ask
  rw [if_neg h47, h1]
  have f0 : frl aqM σ (fhI (fhI (fhI (fhI (fhI (fhI (fhI (fhI (fhI (fhI (fhI σ 0 3 (nI T.2)) 0 1 (0 : Int32)) 0 2 (0 : Int32)) 0 4 (-1 : Int32)) 0 5 (0 : Int32)) 0 6 (-1 : Int32)) 0 48 (1 : Int32)) 0 99 (0 : Int32)) 0 101 (0 : Int32)) 0 102 (0 : Int32)) 0 103 (0 : Int32)) := by
    refine frl_I (frl_I (frl_I (frl_I (frl_I (frl_I (frl_I (frl_I (frl_I (frl_I (frl_I frl_rf ?_) ?_) ?_) ?_) ?_) ?_) ?_) ?_) ?_) ?_) ?_
    all_goals (unfold aqM rD mD; omega)
  have z : ∀ j, (fhI (fhI (fhI (fhI (fhI (fhI (fhI (fhI (fhI (fhI (fhI σ 0 3 (nI T.2)) 0 1 (0 : Int32)) 0 2 (0 : Int32)) 0 4 (-1 : Int32)) 0 5 (0 : Int32)) 0 6 (-1 : Int32)) 0 48 (1 : Int32)) 0 99 (0 : Int32)) 0 101 (0 : Int32)) 0 102 (0 : Int32)) 0 103 (0 : Int32)).1 0 j = if j = 103 then 0 else if j = 102 then 0 else if j = 101 then 0 else if j = 99 then 0 else if j = 48 then 1 else if j = 6 then -1 else if j = 5 then 0 else if j = 4 then -1 else if j = 2 then 0 else if j = 1 then 0 else if j = 3 then nI T.2 else σ.1 0 j := fun j => by
    simp only [fhI_r, true_and]
  have o : ∀ t j, t ≠ 0 → (fhI (fhI (fhI (fhI (fhI (fhI (fhI (fhI (fhI (fhI (fhI σ 0 3 (nI T.2)) 0 1 (0 : Int32)) 0 2 (0 : Int32)) 0 4 (-1 : Int32)) 0 5 (0 : Int32)) 0 6 (-1 : Int32)) 0 48 (1 : Int32)) 0 99 (0 : Int32)) 0 101 (0 : Int32)) 0 102 (0 : Int32)) 0 103 (0 : Int32)).1 t j = σ.1 t j := fun t j h => by
    rw [fhI_o h, fhI_o h, fhI_o h, fhI_o h, fhI_o h, fhI_o h, fhI_o h, fhI_o h, fhI_o h, fhI_o h, fhI_o h]
  generalize fhI (fhI (fhI (fhI (fhI (fhI (fhI (fhI (fhI (fhI (fhI σ 0 3 (nI T.2)) 0 1 (0 : Int32)) 0 2 (0 : Int32)) 0 4 (-1 : Int32)) 0 5 (0 : Int32)) 0 6 (-1 : Int32)) 0 48 (1 : Int32)) 0 99 (0 : Int32)) 0 101 (0 : Int32)) 0 102 (0 : Int32)) 0 103 (0 : Int32) = s0 at f0 z o
  have hG : rG T true [] 0 0 [] [] 0 s0 := by
    refine ⟨⟨fun i hi => by rw [o 1 i (by decide)]; exact hx i hi, by rw [z]; rfl, by rw [z]; rfl, ⟨0, by rw [z]; rfl, Nat.le_refl _, Nat.zero_le _⟩, fun q => (by cases q), fun _ j _ hj => ?_, by rw [z]; rfl⟩, Nat.zero_le _, mW_fr hwd (fun v i hv hi => o v i (by omega)), ⟨by rw [z]; rfl, fun i c hi => by rw [List.getElem?_nil] at hi; cases hi⟩, ⟨by rw [z]; rfl, trivial⟩, Nat.zero_le _, by rw [z]; rfl, by rw [z]; rfl, Nat.le_refl _, by rw [z]; rfl, fun q => (by cases q)⟩
    rw [z]
    show (-1 : Int32) ≠ nI j
    exact fun y => ph_m1n hj y.symm
  refine m_readA hT hG (fun v s hq hf => ?_)
  have e : ∀ t j, ¬ rD t j → s.1 t j = s0.1 t j := fun t j h => hf.2 t j h
  have f1 : frl aqM σ s := frl_tr f0 (frl_r hf (fun t j z => Or.inl z))
  unfold mQr at hq
  unfold f_X12_ask_133 mAskR
  cases hs : sQ T with
  | inl er =>
    rw [hs] at hq
    rw [if_neg (tF_n hq), wq_some]
    refine ⟨⟨rfl, ?_, ?_⟩, ?_, frl_I (frl_I f1 ?_) ?_⟩
    · (try dsimp only)
      rw [fhI_s (by decide), fhI_e]
      exact hq.1.1
    · (try dsimp only)
      rw [fhI_e]
      exact hq.1.2
    · (try dsimp only)
      rw [fhI_s (by decide), fhI_s (by decide), e 0 1 (by unfold rD mD; omega), z]
      rfl
    · unfold aqM; omega
    · unfold aqM; omega
  | inr x =>
    rw [hs] at hq
    obtain ⟨hv, q5, h5, h6, hS, hL, j0, hrd⟩ := hq
    rw [if_pos h5, h5, h6, hv]
    have eo : ∀ t j, ¬ rD t j → t ≠ 0 → (fhI (fhI s 0 7 (0 : Int32)) 0 8 (-1 : Int32)).1 t j = σ.1 t j := fun t j h h0 => by
      rw [fhI_o h0, fhI_o h0, e t j h, o t j h0]
    have eo0 : ∀ j, ¬ rD 0 j → j ≠ 7 → j ≠ 8 → j ∉ [103, 102, 101, 99, 48, 6, 5, 4, 2, 1, 3] → (fhI (fhI s 0 7 (0 : Int32)) 0 8 (-1 : Int32)).1 0 j = σ.1 0 j := fun j h a b c => by
      simp only [List.mem_cons, List.not_mem_nil, or_false, not_or] at c
      obtain ⟨c1, c2, c3, c4, c5, c6, c7, c8, c9, c10, c11⟩ := c
      rw [fhI_s b, fhI_s a, e 0 j h, z, if_neg c1, if_neg c2, if_neg c3, if_neg c4, if_neg c5, if_neg c6, if_neg c7, if_neg c8, if_neg c9, if_neg c10, if_neg c11]
    have hrw : rwM' W (fhI (fhI s 0 7 (0 : Int32)) 0 8 (-1 : Int32)) := ⟨by rw [eo _ _ (by unfold rD mD; omega) (by decide)]; exact hm.1.1, by rw [eo _ _ (by unfold rD mD; omega) (by decide)]; exact hm.1.2.1, by rw [eo0 52 (by unfold rD mD; omega) (by decide) (by decide) (by decide)]; exact hm.1.2.2.1, fun r i a b => by rw [eo _ _ (by unfold rD mD; omega) (by decide)]; exact hm.1.2.2.2 r i a b⟩
    have hg2 : gmM W G.L G.w G.rd (fhI (fhI s 0 7 (0 : Int32)) 0 8 (-1 : Int32)) := ⟨fun r hr => by rw [eo _ _ (by unfold rD mD; omega) (by decide)]; exact hgm.1 r hr, by rw [eo _ _ (by unfold rD mD; omega) (by decide)]; exact hgm.2.1, by rw [eo _ _ (by unfold rD mD; omega) (by decide)]; exact hgm.2.2⟩
    refine wq_mono (m_ask173 hW q5 hL hrw hg2 (fun i hi => by rw [eo _ _ (by unfold rD mD; omega) (by decide)]; exact hm.2.2.2.2.1 i hi) hw hr (rS_fr hS (by rw [fhI_s (by decide), fhI_s (by decide)]) (fun i => by rw [fhI_o (by decide), fhI_o (by decide)])) (fun i _ => fQ_run hrd i) (fun y i => fQ_bt hrd y i)) ?_
    rintro r ⟨r1, r2⟩
    refine ⟨⟨r1, ?_, ?_⟩, ?_, frl_tr (frl_I (frl_I f1 ?_) ?_) (frl_mo r2 (fun t j y => ?_))⟩
    · rw [(r2.1 0 7 (by omega)).1, fhI_s (by decide), fhI_e]
    · rw [(r2.1 0 8 (by omega)).1, fhI_e]
    · rw [(r2.1 0 1 (by omega)).1, fhI_s (by decide), fhI_s (by decide), e 0 1 (by unfold rD mD; omega), z]
      rfl
    · unfold aqM; omega
    · unfold aqM; omega
    · unfold aqM; omega
end
