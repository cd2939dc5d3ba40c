/-! ANEW in the class: laid as a whole -/
theorem c_anStart {W : gW} (hW : wOK W) {σ : fhM} {A B C D : Nat} (htb : tbF W W.N σ) (hAB : swp A B 77 79) (hCD : swp C D 81 83) (r1 : σ.2.2 76 1 = A) (r2 : σ.2.2 76 2 = B) (r3 : σ.2.2 76 3 = C) (r4 : σ.2.2 76 4 = D) :
    wq (f_X1_start σ) (fun s => anS W 0 [rl W.N W.al] A B C D s ∧ anR σ s) := by
  obtain ⟨oA, oB, iA, iB⟩ := swp_o hAB
  obtain ⟨oC, oD, iC, iD⟩ := swp_s hCD
  have hg5 := hW.1
  have hN10 := hW.2.1
  have hll := rl_len W.N W.al
  have h12 := htb.2.2.2.2.1
  have h55 := htb.2.2.2.2.2.2.2.2.2.2.2
  unfold f_X1_start
  refine wq_for (R := fun k x => ∃ g, x = (nI k, fhU σ (A + 1) g) ∧ ∀ j, j < k → g j = nI ((rl W.N W.al).getD j 0)) 0 (rl W.N W.al).length (Nat.zero_le _) ?_ ?_ ⟨σ.1 (A + 1), by rw [fhU_id (fun _ => rfl)]; rfl, fun j hj => absurd hj (Nat.not_lt_zero _)⟩
  · rintro k x - hk ⟨g, rfl, g1⟩
    (try dsimp only)
    unfold f_X1_start_2
    rw [fhU_o (show 39 ≠ A + 1 by omega), h12, if_neg (nI_ge hk (by omega)), show (fhU σ (A + 1) g).2.2 76 1 = A from r1, if_pos iA, cg54 (by omega), fhU_o (show 55 ≠ A + 1 by omega), h55 k hk, fcP_at oA (by omega) (by omega), fhU_I, nI_1, wq_some, fhK_l]
    refine ⟨_, rfl, fun j hj => ?_⟩
    (try dsimp only)
    by_cases q : j = k
    · rw [if_pos q, q]
    · rw [if_neg q]
      exact g1 j (by omega)
  · rintro x ⟨g, rfl, g1⟩
    (try dsimp only)
    unfold f_X1_start_2
    rw [fhU_o (show 39 ≠ A + 1 by omega), h12, if_pos (nI_le (Nat.le_refl _) (by omega)), wq_map]
    refine wq_for (R := fun k x => ∃ u, x = (nI k, fhU (fhU σ (A + 1) g) 88 u) ∧ ∀ j, j < k → u j = nI 99) 0 5120 (Nat.zero_le _) ?_ ?_ ⟨(fhU σ (A + 1) g).1 88, by rw [fhU_id (t := 88) (fun _ => rfl)]; rfl, fun j hj => absurd hj (Nat.not_lt_zero _)⟩
    · rintro k x - hk ⟨u, rfl, u1⟩
      (try dsimp only)
      unfold f_X1_start_40
      rw [show (5120 : Int32) = nI 5120 from rfl, if_neg (nI_ge hk (by omega)), cp87 hk, fhU_I, nI_1, wq_some, fhK_l]
      refine ⟨_, rfl, fun j hj => ?_⟩
      (try dsimp only)
      by_cases q : j = k
      · rw [if_pos q]
        rfl
      · rw [if_neg q]
        exact u1 j (by omega)
    · rintro x ⟨u, rfl, u1⟩
      (try dsimp only)
      unfold f_X1_start_40
      rw [show (5120 : Int32) = nI 5120 from rfl, if_pos (nI_le (Nat.le_refl _) (by omega)), show (fhU (fhU σ (A + 1) g) 88 u).2.2 76 3 = C from r3, if_pos iC]
      rw [show ∀ (s : fhM) v, fcP s C (0 : Int32) v = fhI s (C + 1) 0 v from fun s v => fcP_at (k := 0) oC (by omega) (by omega)]
      rw [show ∀ (s : fhM) v, fcP s C (1 : Int32) v = fhI s (C + 1) 1 v from fun s v => fcP_at (k := 1) oC (by omega) (by omega)]
      rw [fhI_o (show 39 ≠ C + 1 by omega), fhI_o (show 39 ≠ 76 by decide), fhU_o (show 39 ≠ 88 by decide), fhU_o (show 39 ≠ A + 1 by omega), h12, wq_some, fhK_r, fhK_r]
      have fl1 : ([rl W.N W.al] : List (List Nat)).flatten = rl W.N W.al := by simp
      refine ⟨⟨hAB, hCD, ⟨r1, r2, r3, r4⟩, ?_, ?_, ?_, ?_⟩, ⟨fun t k ht => ⟨?_, rfl⟩, rfl⟩, fun k h1 h2 => ?_⟩
      · rw [fl1]
        intro k hk
        rw [fhI_o (by omega), fhI_o (by omega), fhI_o (by omega), fhU_o (by omega), fhU_e]
        exact g1 k hk
      · intro j hj
        have h1 : ([rl W.N W.al] : List (List Nat)).length = 1 := rfl
        rcases Nat.lt_or_ge j 1 with c | c
        · have : j = 0 := by omega
          rw [this, fhI_s (by decide), fhI_e]
          rfl
        · have : j = 1 := by omega
          rw [this, fhI_e]
          show _ = nI ([rl W.N W.al] : List (List Nat)).flatten.length
          rw [fl1]
      · rw [fhI_o (by omega), fhI_o (by omega), fhI_e]
        rfl
      · intro r i hr hi
        have hr2 := hW.2.2.2.2.2.2.1 r hr
        rw [fhI_o (by omega), fhI_o (by omega), fhI_o (by decide), fhU_e, u1 _ (by omega)]
        rfl
      · have : t ≠ 76 ∧ t ≠ A + 1 ∧ t ≠ C + 1 ∧ t ≠ 88 := by unfold anD at ht; omega
        rw [fhI_o this.2.2.1, fhI_o this.2.2.1, fhI_o this.1, fhU_o this.2.2.2, fhU_o this.2.1]
      · rw [fhI_o (by omega), fhI_o (by omega), fhI_s h1, fhU_o (by decide), fhU_o (by omega)]
def fkT (W : gW) (σ : fhM) : Prop := ∀ r i, W.al r = true → i < W.g → σ.1 88 (r * 5 + i) = nI (fk W r i)
def anQ (σ : fhM) : Prop := ∃ A B C D, swp A B 77 79 ∧ swp C D 81 83 ∧ σ.2.2 76 1 = A ∧ σ.2.2 76 2 = B ∧ σ.2.2 76 3 = C ∧ σ.2.2 76 4 = D
def anC (W : gW) (σ : fhM) : Prop := anQ σ ∧ (σ.1 76 9 = 0 ∨ (σ.1 76 9 = 1 ∧ fkT W σ))
def anP (σ s : fhM) : Prop := fpl anD σ s ∧ ∀ j, j ≠ 5 → j ≠ 6 → j ≠ 9 → s.1 76 j = σ.1 76 j
theorem tbF_e {W : gW} {σ s : fhM} (h : tbF W W.N σ) (hf : fpl anD σ s) : tbF W W.N s := by
  have e : ∀ t j, t < 76 → s.1 t j = σ.1 t j := fun t j q => (hf.1 t j (fun z => by unfold anD at z; omega)).1
  obtain ⟨a1, a2, a3, a4, a5, a6, a7, a8, a9, a10, a11, a12⟩ := h
  exact ⟨by rw [e 39 _ (by decide)]; exact a1, by rw [e 39 _ (by decide)]; exact a2, by rw [e 39 _ (by decide)]; exact a3, by rw [e 39 _ (by decide)]; exact a4, by rw [e 39 _ (by decide)]; exact a5, fun k hk => by rw [e 41 _ (by decide)]; exact a6 k hk, fun k hk => by rw [e 51 _ (by decide)]; exact a7 k hk, fun r i x y => by rw [e 43 _ (by decide)]; exact a8 r i x y, fun r i x y => by rw [e 45 _ (by decide)]; exact a9 r i x y, fun r x => by rw [e 47 _ (by decide)]; exact a10 r x, fun r x y => by rw [e 53 _ (by decide)]; exact a11 r x y, fun k x => by rw [e 55 _ (by decide)]; exact a12 k x⟩
theorem psF_e {σ s : fhM} (h : psF σ) (hf : fpl anD σ s) : psF s := fun j hj => by rw [(hf.1 49 j (fun z => by unfold anD at z; omega)).1]; exact h j hj
theorem c_prepN {W : gW} (hW : wOK W) {σ : fhM} (htb : tbF W W.N σ) (hz : psF σ) (hne : rl W.N W.al ≠ []) (h : anC W σ) : wq (f_X1_prepare σ) (fun s => anC W s ∧ s.1 76 9 = 1 ∧ fkT W s ∧ anP σ s) := by
  have h12 := htb.2.2.2.2.1
  obtain ⟨⟨A, B, C, D, hAB, hCD, r1, r2, r3, r4⟩, hq⟩ := h
  unfold f_X1_prepare
  by_cases q : σ.1 76 9 = 0
  · rw [if_pos q, wq_bind]
    have hf0 : fpl anD σ (fhI σ 76 9 (1 : Int32)) := ⟨fun t j ht => ⟨fhI_o (fun z => ht (Or.inl z)), rfl⟩, rfl⟩
    refine wq_mono (c_anStart hW (σ := fhI σ 76 9 (1 : Int32)) (tbF_e htb hf0) hAB hCD r1 r2 r3 r4) ?_
    rintro s0 ⟨hS0, hR0⟩
    have htr : ∀ s, anR (fhI σ 76 9 (1 : Int32)) s → fpl anD σ s ∧ s.1 76 9 = 1 ∧ ∀ j, j ≠ 5 → j ≠ 6 → j ≠ 9 → s.1 76 j = σ.1 76 j := fun s hs => ⟨fpl_tr2 hf0 hs.1, by rw [hs.2 9 (by decide) (by decide), fhI_e], fun j a b c => by rw [hs.2 j a b, fhI_s c]⟩
    refine wq_for (R := fun n x => ∃ gs A B C D s fl, x = (fl, nI n, s) ∧ anS W n gs A B C D s ∧ gI W n gs ∧ anR (fhI σ 76 9 (1 : Int32)) s ∧ (fl = 1 ∨ (fl = 0 ∧ ∃ m, n = m + 1 ∧ ∀ r, W.al r = true → tl W (m + 1) r = tl W m r))) 0 21 (Nat.zero_le _) ?_ ?_ ⟨_, A, B, C, D, s0, _, rfl, hS0, gI_0 hne, hR0, Or.inl rfl⟩
    · rintro n x - hn ⟨gs, A, B, C, D, s, fl, rfl, hS, hI, hR, hfl⟩
      (try dsimp only)
      unfold f_X1_prepare_21
      obtain ⟨f1, f2, f3⟩ := htr s hR
      rw [show (20 : Int32) = nI 20 from rfl, if_neg (by rw [nI_ltP (a := 20) (b := n) (by omega) (by omega)]; omega)]
      rcases hfl with rfl | ⟨rfl, m, rfl, hm⟩
      · rw [if_neg (by decide), wq_bind]
        refine wq_mono (c_splitGs hW hS hI (tbF_rw (tbF_e htb f1)) (psF_e hz f1) (tbF_e htb f1).2.2.2.2.1 (by omega)) ?_
        rintro s2 ⟨hS2, hR2⟩
        unfold f_X1_prepare_54
        rw [nI_1, wq_some, fhK_l]
        refine ⟨splt W gs, B, A, D, C, s2, _, rfl, hS2, gI_s hW hI, anR_tr hR hR2, ?_⟩
        have hl1 : gs.length ≤ 1024 := by
          have := len_fl (fun p hp => (hI.2.2 p hp).1)
          have := hI.2.1
          have := rl_len W.N W.al
          have := hW.2.1
          omega
        have hl2 : (splt W gs).length ≤ 1024 := by
          have := len_fl (splt_ne (W := W) (gs := gs))
          rw [splt_fl] at this
          have := hI.2.1
          have := rl_len W.N W.al
          have := hW.2.1
          omega
        rw [hS2.2.2.2.2.2.1, hS.2.2.2.2.2.1]
        by_cases c : (splt W gs).length ≤ gs.length
        · rw [if_pos (nI_le c (by omega))]
          exact Or.inr ⟨rfl, n, rfl, splt_fix hW hI c⟩
        · rw [if_neg (nI_ge (by omega) (by omega))]
          exact Or.inl rfl
      · rw [if_pos rfl, wq_some, fhK_r]
        have hT : fkT W s := fun r i hr hi => by
          rw [hS.2.2.2.2.2.2 r i hr hi]
          have := fkR_stay hm r i hr (20 - m)
          rw [show m + 1 + (20 - m) = 21 from by omega] at this
          rw [← this]
          rfl
        exact ⟨⟨⟨A, B, C, D, hS.1, hS.2.1, hS.2.2.1⟩, Or.inr ⟨f2, hT⟩⟩, f2, hT, f1, f3⟩
    · rintro x ⟨gs, A, B, C, D, s, fl, rfl, hS, hI, hR, hfl⟩
      (try dsimp only)
      unfold f_X1_prepare_21
      obtain ⟨f1, f2, f3⟩ := htr s hR
      rw [if_pos (by decide), wq_some, fhK_r]
      exact ⟨⟨⟨A, B, C, D, hS.1, hS.2.1, hS.2.2.1⟩, Or.inr ⟨f2, hS.2.2.2.2.2.2⟩⟩, f2, hS.2.2.2.2.2.2, f1, f3⟩
  · rw [if_neg q, wq_some]
    obtain ⟨a, b⟩ := hq.resolve_left q
    exact ⟨⟨⟨A, B, C, D, hAB, hCD, r1, r2, r3, r4⟩, hq⟩, a, b, ⟨fun _ _ _ => ⟨rfl, rfl⟩, rfl⟩, fun _ _ _ _ => rfl⟩
