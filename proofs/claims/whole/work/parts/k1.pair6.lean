/-! THE PAIRS: hear, image, ask -/
def afU (A : aS) (f : Int32 × Int32) : aS := (A.T, A.p, A.G, A.S, A.H, A.q, f, A.d, A.i)
section
variable {n : Nat} {A : aS} {σ τ : fhM}
theorem p_hear (hc : CS A σ) (hm : MS A τ) (hv : AV n A) : okQ n (f_X11_hear σ) (f_X12_hear τ) := by
  have hW := aW_ok hv
  obtain ⟨⟨s1, s2⟩, e1, h1⟩ := c_hear hW hv.1 hc.2.1.1 hc.2.1.2 hc.1.2.2.1.1.2.1
  obtain ⟨⟨t1, t2⟩, e2, h2⟩ := m_hear hW hv.1 hm.2.1.1 hm.2.1.2 hm.1.2.2.1.1.1.2.1
  by_cases o : hrdO (aW A.p) A.T
  · obtain ⟨-, a1, t, a2, a3⟩ := h1.resolve_right (fun z => z.1 o)
    obtain ⟨-, b1, u, b2, b3⟩ := h2.resolve_right (fun z => z.1 o)
    have a1 : s1 = nI (A.T.2 / 3) := a1
    have b1 : t1 = nI (A.T.2 / 3) := b1
    have a2 : s2 = fhI (fhU (fhI σ 0 1 (0 : Int32)) 90 t) 76 13 (nI (A.T.2 / 3)) := a2
    have b2 : t2 = fhI (fhU (fhI τ 0 1 (0 : Int32)) 50 u) 0 68 (nI (A.T.2 / 3)) := b2
    subst a1 b1 a2 b2
    refine ⟨_, _, _, aHU (aTU A (T0 A.T 0)) A.T, e1, e2, ⟨CS0_k hc.1 (fun t j z => ?_) (fun t j z => rfl), ?_⟩, ⟨MS0_k hm.1 (fun t j z => ?_) (fun _ => rfl), ?_⟩, ?_⟩
    · rw [fhI_r, if_neg (by unfold kpC at z; omega), fhU_o (by unfold kpC at z; omega), fhI_r, if_neg (by unfold kpC at z; omega)]
    · obtain ⟨⟨x1, x2⟩, ⟨y1, y2⟩, c, ⟨d1, d2⟩, z1, f1, f2⟩ := hc.2
      have e : ∀ t' j, t' ≠ 90 → (t' ≠ 0 ∨ j ≠ 1) → (t' ≠ 76 ∨ j ≠ 13) → (fhI (fhU (fhI σ 0 1 (0 : Int32)) 90 t) 76 13 (nI (A.T.2 / 3))).1 t' j = σ.1 t' j := fun t' j p q r => by
        rw [fhI_r, if_neg (by omega), fhU_o p, fhI_r, if_neg (by omega)]
      exact ⟨⟨by rw [fhI_o (by decide), fhU_o (by decide), fhI_e]; rfl, fun j hj => absurd hj (Nat.not_lt_zero _)⟩, ⟨fhI_e, fun k hk => by rw [fhI_o (by decide), fhU_e]; exact a3 k hk⟩, fun k hk => by rw [e _ _ (by decide) (Or.inl (by decide)) (Or.inl (by decide))]; exact c k hk, ⟨by rw [e _ _ (by decide) (by decide) (by decide)]; exact d1, by rw [e _ _ (by decide) (by decide) (by decide)]; exact d2⟩, by rw [e _ _ (by decide) (by decide) (by decide)]; exact z1, by rw [e _ _ (by decide) (by decide) (by decide)]; exact f1, fun j hj => by rw [e _ _ (by decide) (Or.inl (by decide)) (Or.inl (by decide))]; exact f2 j hj⟩
    · rw [fhI_r, if_neg (by unfold kpQ kpW at z; omega), fhU_o (by unfold kpQ kpW at z; omega), fhI_r, if_neg (by unfold kpQ kpW at z; omega)]
    · obtain ⟨⟨x1, x2⟩, ⟨y1, y2⟩, c, ⟨d1, d2⟩, z1, f1, f2⟩ := hm.2
      have e : ∀ t' j, t' ≠ 50 → (t' ≠ 0 ∨ (j ≠ 1 ∧ j ≠ 68)) → (fhI (fhU (fhI τ 0 1 (0 : Int32)) 50 u) 0 68 (nI (A.T.2 / 3))).1 t' j = τ.1 t' j := fun t' j p q => by
        rw [fhI_r, if_neg (by omega), fhU_o p, fhI_r, if_neg (by omega)]
      exact ⟨⟨by rw [fhI_s (by decide), fhU_o (by decide), fhI_e]; rfl, fun j hj => absurd hj (Nat.not_lt_zero _)⟩, ⟨fhI_e, fun k hk => by rw [fhI_o (by decide), fhU_e]; exact b3 k hk⟩, fun k hk => by rw [e _ _ (by decide) (Or.inl (by decide))]; exact c k hk, ⟨by rw [e _ _ (by decide) (by decide)]; exact d1, by rw [e _ _ (by decide) (by decide)]; exact d2⟩, z1, by rw [e _ _ (by decide) (by decide)]; exact f1, fun j hj => by rw [e _ _ (by decide) (Or.inl (by decide))]; exact f2 j hj⟩
    · obtain ⟨p1, p2, p3, p4, p5, p6, p7⟩ := AV_T (AV_s hv) (x := 0) (Nat.zero_le _)
      exact ⟨p1, p2, p3, p4, p5, ⟨o.1, o.2.2.1, o.2.2.2, hv.1.2⟩, p7⟩
  · obtain ⟨-, a1⟩ := h1.resolve_left (fun z => o z.1)
    obtain ⟨-, b1⟩ := h2.resolve_left (fun z => o z.1)
    have c1 := CS_r (CS_T hc (x := 0) (Nat.zero_le _)) (k := 1) (by decide)
    have m1 := MS_r (MS_T hm (x := 0) (Nat.zero_le _)) (k := 1) (by decide)
    rw [fhI_o (show 101 ≠ 0 by decide)] at c1
    rw [fhI_o (show 2 ≠ 0 by decide)] at m1
    exact ⟨(-1 : Int32), _, _, _, e1.trans (by rw [a1]; rfl), e2.trans (by rw [b1]; rfl), c1, m1, AV_T (AV_s hv) (Nat.zero_le _)⟩
theorem p_image (hc : CS A σ) (hm : MS A τ) (hv : AV n A) : okQ n (f_X11_image σ) (f_X12_image τ) := by
  have hW := aW_ok hv
  obtain ⟨g1, g2, g3, g4, g5⟩ := AV_G hv
  have hw : 0 < (aW A.p).g → A.G.w < (aW A.p).N := fun h => rl_lt _ (g1 h)
  obtain ⟨hb1, hb2, hb3⟩ := nbt_le hW
  have hg5 := hW.1
  refine okQ_w (v := nI (psz (aW A.p))) (P := fun _ => True) (Q := fun _ => True) (B := aiU A (psz (aW A.p), picB (aW A.p) A.G)) ?_ ?_ ?_
  · refine wq_mono (c_image hW (tbF_rw hc.1.2.2.1.1) hc.1.2.2.1.1.2.2.2.1 hc.1.2.2.1.2.2.1 hw g5 g4) ?_
    rintro r ⟨h1, f, h2, h3⟩
    refine ⟨h1, ?_⟩
    rw [h2]
    refine ⟨CS0_k hc.1 (fun t j z => by rw [fhI_r, if_neg (by unfold kpC at z; omega), fhU_o (by unfold kpC at z; omega)]) (fun t j z => rfl), ?_⟩
    obtain ⟨⟨x1, x2⟩, ⟨y1, y2⟩, c, ⟨d1, d2⟩, z1, f1, f2⟩ := hc.2
    have e : ∀ t' j, t' ≠ 99 → (t' ≠ 0 ∨ j ≠ 14) → (fhI (fhU σ 99 f) 0 14 (nI (psz (aW A.p)))).1 t' j = σ.1 t' j := fun t' j p q => by
      rw [fhI_r, if_neg (by omega), fhU_o p]
    exact ⟨⟨by rw [e _ _ (by decide) (by decide)]; exact x1, fun j hj => by rw [e _ _ (by decide) (Or.inl (by decide))]; exact x2 j hj⟩, ⟨by rw [e _ _ (by decide) (by decide)]; exact y1, fun k hk => by rw [e _ _ (by decide) (Or.inl (by decide))]; exact y2 k hk⟩, fun k hk => by rw [e _ _ (by decide) (Or.inl (by decide))]; exact c k hk, ⟨by rw [e _ _ (by decide) (by decide)]; exact d1, by rw [e _ _ (by decide) (by decide)]; exact d2⟩, by rw [e _ _ (by decide) (by decide)]; exact z1, fhI_e, fun j hj => by rw [fhI_o (by decide), fhU_e]; exact h3 j hj⟩
  · refine wq_mono (m_image hW hm.1.2.2.1.1.1 (MS_tbM hm).1 hw g5 g4) ?_
    rintro r ⟨h1, f, h2, h3⟩
    refine ⟨h1, ?_⟩
    rw [h2]
    refine ⟨MS0_k hm.1 (fun t j z => ims_o (by unfold kpQ kpW at z; omega) (by unfold kpQ kpW at z; omega)) (fun _ => rfl), ?_⟩
    obtain ⟨⟨x1, x2⟩, ⟨y1, y2⟩, c, ⟨d1, d2⟩, z1, f1, f2⟩ := hm.2
    exact ⟨⟨by rw [ims_o (by decide) (by decide)]; exact x1, fun j hj => by rw [ims_o (by decide) (Or.inl (by decide))]; exact x2 j hj⟩, ⟨by rw [ims_o (by decide) (by decide)]; exact y1, fun k hk => by rw [ims_o (by decide) (Or.inl (by decide))]; exact y2 k hk⟩, fun k hk => by rw [ims_o (by decide) (Or.inl (by decide))]; exact c k hk, ⟨by rw [ims_o (by decide) (by decide)]; exact d1, by rw [ims_o (by decide) (by decide)]; exact d2⟩, z1, ims_n, fun j hj => by rw [ims_f]; exact h3 j hj⟩
  · obtain ⟨p1, p2, p3, p4, p5, p6, p7, p8⟩ := AV_s hv
    refine ⟨p1, p2, p3, p4, p5, p6, p7, ?_⟩
    show psz (aW A.p) ≤ 136
    unfold psz
    omega
theorem p_ask (hc : CS A σ) (hm : MS A τ) (hv : AV n A) : okQ n (f_X11_ask σ) (f_X12_ask τ) := by
  have hW := aW_ok hv
  obtain ⟨g1, g2, g3, g4, g5⟩ := AV_G hv
  have hw : 0 < (aW A.p).g → A.G.w < (aW A.p).N := fun h => rl_lt _ (g1 h)
  rcases told hc hm with ⟨-, h8, h47⟩ | ⟨p, hp, h8, h47⟩
  · refine ⟨-1000000000000000, fhI σ 0 1 (nI 0), fhI τ 0 1 (nI 0), aTU A (T0 A.T 0), ?_, ?_, CS_T hc (Nat.zero_le _), MS_T hm (Nat.zero_le _), AV_T (AV_s hv) (Nat.zero_le _)⟩
    · unfold f_X11_ask f_X11_takeTape fhlet
      (try dsimp only)
      rw [if_pos (by rw [fhI_s (by decide)]; exact h8)]
      rfl
    · unfold f_X12_ask
      rw [if_pos h47]
      rfl
  · obtain ⟨⟨s1, s2⟩, e1, h1, h01, k1, k2, k3, k4⟩ := c_ask hW hv.1 hc.1.2.2.1 g1 g5 hc.2.1.1 hc.2.1.2 h8 (swp_P hc.1.1).1
    obtain ⟨⟨t1, t2⟩, e2, h2, m01, mf⟩ := m_ask hW hv.1 hm.1.2.2.1 hw g5 hm.2.1.1 hm.2.1.2 hm.1.1 h47
    (try dsimp only at h1 h01 k1 k2 k3 k4 h2 m01 mf)
    have cs0 : CS0 A.p A.G A.S s2 := CS0_k hc.1 (fun t j z => by
      by_cases q : t = 0
      · subst q
        exact k2 j (by unfold kpC at z; omega) (by unfold kpC at z; omega) (by unfold kpC at z; omega)
      · exact k1 t j (by unfold kpC at z; unfold akD aqD; omega) q) (fun t j z => k3 t j (by unfold aqD; omega))
    have ms0 : MS0 A.p A.G A.S t2 := MS0_k hm.1 (fun t j z => (mf.1 t j (by unfold kpQ kpW at z; unfold aqM rD mD; omega)).1) (fun j => (mf.1 30 j (by unfold aqM rD mD; omega)).2)
    have av : ∀ f, AV (n + 1) (afU (aTU A (T0 A.T 0)) f) := fun f => AV_T (AV_s hv) (Nat.zero_le _)
    have fin : ∀ (f : Int32 × Int32), s1 = t1 → s2.1 0 17 = f.1 → s2.1 0 18 = f.2 → t2.1 0 7 = f.1 → t2.1 0 8 = f.2 → okQ n (f_X11_ask σ) (f_X12_ask τ) := by
      intro f ev a1 a2 b1 b2
      subst ev
      refine ⟨s1, s2, t2, afU (aTU A (T0 A.T 0)) f, e1, e2, ⟨cs0, ?_⟩, ⟨ms0, ?_⟩, av f⟩
      · obtain ⟨⟨x1, x2⟩, ⟨y1, y2⟩, c, ⟨d1, d2⟩, z1, f1, f2⟩ := hc.2
        exact ⟨⟨h01, fun j hj => absurd hj (Nat.not_lt_zero _)⟩, ⟨by rw [k1 _ _ (by unfold akD aqD; omega) (by decide)]; exact y1, fun k hk => by rw [k1 _ _ (by unfold akD aqD; omega) (by decide)]; exact y2 k hk⟩, fun k hk => by rw [k1 _ _ (by unfold akD aqD; omega) (by decide)]; exact c k hk, ⟨a1, a2⟩, by rw [k2 _ (by decide) (by decide) (by decide)]; exact z1, by rw [k2 _ (by decide) (by decide) (by decide)]; exact f1, fun j hj => by rw [k1 _ _ (by unfold akD aqD; omega) (by decide)]; exact f2 j hj⟩
      · obtain ⟨⟨x1, x2⟩, ⟨y1, y2⟩, c, ⟨d1, d2⟩, z1, f1, f2⟩ := hm.2
        have e : ∀ t j, ¬ aqM t j → t2.1 t j = τ.1 t j := fun t j h => (mf.1 t j h).1
        exact ⟨⟨m01, fun j hj => absurd hj (Nat.not_lt_zero _)⟩, ⟨by rw [e _ _ (by unfold aqM rD mD; omega)]; exact y1, fun k hk => by rw [e _ _ (by unfold aqM rD mD; omega)]; exact y2 k hk⟩, fun k hk => by rw [e _ _ (by unfold aqM rD mD; omega)]; exact c k hk, ⟨b1, b2⟩, by rw [(mf.1 0 73 (by unfold aqM rD mD; omega)).2]; exact z1, by rw [e _ _ (by unfold aqM rD mD; omega)]; exact f1, fun j hj => by rw [e _ _ (by unfold aqM rD mD; omega)]; exact f2 j hj⟩
    unfold mAskR at h2
    cases hs : sQ A.T with
    | inl er =>
      rw [hs] at h1 h2
      exact fin (nI er.1, nI er.2) (h1.1.trans h2.1.symm) h1.2.1 h1.2.2 h2.2.1 h2.2.2
    | inr x =>
      rw [hs] at h1 h2
      exact fin (0, -1) (h1.1.trans h2.1.symm) h1.2.1 h1.2.2 h2.2.1 h2.2.2
end
