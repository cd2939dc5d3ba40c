/-! THE PAIRS: parlour -/
def kpC2 (t : Nat) : Prop := (39 ≤ t ∧ t ≤ 56) ∨ t = 73 ∨ t = 75 ∨ t = 93 ∨ t = 95 ∨ t = 97
theorem cGm_k2 {W : gW} {G : gG} {S : List gG} {σ s : fhM} (h : cGm W G S σ) (e : ∀ t j, kpC2 t → s.1 t j = σ.1 t j) : cGm W G S s := by
  obtain ⟨h1, h2, ⟨g1, g2, g3, g4, g5⟩, h4, p, s3, hp, s4, hl2, hs⟩ := h
  have e97 : s.1 97 = σ.1 97 := funext (fun j => e 97 j (by unfold kpC2; omega))
  have t1 : tbF W W.N s := by
    obtain ⟨a1, a2, a3, a4, a5, a6, a7, a8, a9, a10, a11, a12⟩ := h1
    have e' : ∀ t j, 39 ≤ t → t ≤ 55 → s.1 t j = σ.1 t j := fun t j a b => e t j (by unfold kpC2; omega)
    exact ⟨by rw [e' 39 _ (by decide) (by decide)]; exact a1, by rw [e' 39 _ (by decide) (by decide)]; exact a2, by rw [e' 39 _ (by decide) (by decide)]; exact a3, by rw [e' 39 _ (by decide) (by decide)]; exact a4, by rw [e' 39 _ (by decide) (by decide)]; exact a5, fun k hk => by rw [e' 41 _ (by decide) (by decide)]; exact a6 k hk, fun k hk => by rw [e' 51 _ (by decide) (by decide)]; exact a7 k hk, fun r i x y => by rw [e' 43 _ (by decide) (by decide)]; exact a8 r i x y, fun r i x y => by rw [e' 45 _ (by decide) (by decide)]; exact a9 r i x y, fun r x => by rw [e' 47 _ (by decide) (by decide)]; exact a10 r x, fun r x y => by rw [e' 53 _ (by decide) (by decide)]; exact a11 r x y, fun k x => by rw [e' 55 _ (by decide) (by decide)]; exact a12 k x⟩
  refine ⟨t1, fun j hj => by rw [e 49 j (by unfold kpC2; omega)]; exact h2 j hj, ⟨by rw [e 56 _ (by unfold kpC2; omega)]; exact g1, by rw [e 56 _ (by unfold kpC2; omega)]; exact g2, by rw [e 56 _ (by unfold kpC2; omega)]; exact g3, fun k hk => by rw [e 73 _ (by unfold kpC2; omega)]; exact g4 k hk, fun r hr => by rw [e 75 _ (by unfold kpC2; omega)]; exact g5 r hr⟩, ⟨by rw [e 93 _ (by unfold kpC2; omega)]; exact h4.1, fun k x hk hb => by
    rw [e 95 _ (by unfold kpC2; omega), e 95 _ (by unfold kpC2; omega), e 95 _ (by unfold kpC2; omega), e 95 _ (by unfold kpC2; omega)]
    exact h4.2 k x hk hb⟩, p, by rw [e 93 _ (by unfold kpC2; omega)]; exact s3, hp, by rw [e 93 _ (by unfold kpC2; omega)]; exact s4, hl2, fun k G2 hk => by rw [e97]; exact hs k G2 hk⟩
def kpQ2 (t j : Nat) : Prop := ((t = 29 ∨ t = 32) ∧ 5 ≤ j) ∨ t = 37 ∨ t = 38 ∨ t = 39 ∨ t = 44 ∨ t = 51 ∨ (t = 0 ∧ (j = 52 ∨ j = 53 ∨ j = 62 ∨ j = 71 ∨ j = 72))
theorem mGm_k2 {W : gW} {G : gG} {S : List gG} {σ s : fhM} (h : mGm W G S σ) (e : ∀ t j, kpQ2 t j → s.1 t j = σ.1 t j) : mGm W G S s := by
  obtain ⟨⟨⟨a1, a2, a3, a4⟩, b1, b2, b3, b4, b5⟩, c, ⟨x, d⟩, f⟩ := h
  have e44 : s.1 44 = σ.1 44 := funext (fun j => e 44 j (by unfold kpQ2; omega))
  exact ⟨⟨⟨by rw [e 29 _ (by unfold kpQ2; omega)]; exact a1, by rw [e 29 _ (by unfold kpQ2; omega)]; exact a2, by rw [e 0 52 (by unfold kpQ2; omega)]; exact a3, fun r i y z => by rw [e 39 _ (by unfold kpQ2; omega)]; exact a4 r i y z⟩, by rw [e 29 _ (by unfold kpQ2; omega)]; exact b1, fun r y => by rw [e 37 _ (by unfold kpQ2; omega)]; exact b2 r y, fun r y => by rw [e 38 _ (by unfold kpQ2; omega)]; exact b3 r y, fun i y => by rw [e 32 _ (by unfold kpQ2; omega)]; exact b4 i y, by rw [e 0 53 (by unfold kpQ2; omega)]; exact b5⟩, by rw [e44]; exact c, ⟨x, stkM_a d (fun j => e 51 j (by unfold kpQ2; omega)) (e 0 71 (by unfold kpQ2; omega)) (e 0 72 (by unfold kpQ2; omega))⟩, by rw [e 0 62 (by unfold kpQ2; omega)]; exact f⟩
theorem sFull_al {T : tT} {p : fhPS} (h : sFull T = .inr p) : alw p (wrn p) = true := by
  unfold sFull at h
  split at h
  · cases h
  · split at h
    · rename_i c
      cases h
      exact c
    · cases h
noncomputable def aPU (A : aS) (p : fhPS) : aS := (T0 A.T 0, some p, (0, wrn p, (wOf p).al, []), [], T0 A.H 0, A.q, ((0 : Int32), (-1 : Int32)), A.d, A.i)
section
variable {n : Nat} {A : aS} {σ τ : fhM}
theorem p_parlour (hc : CS A σ) (hm : MS A τ) (hv : AV n A) : okQ n (f_X11_parlour σ) (f_X12_parlour τ) := by
  have hT := hv.1
  have hs := hc.1.1
  have hP2 := swp_P hs
  have hs' : swp (σ.2.2 0 7) (σ.2.2 0 6) 15 27 := by
    rcases hs with ⟨a, b⟩ | ⟨a, b⟩
    · exact Or.inr ⟨b, a⟩
    · exact Or.inl ⟨b, a⟩
  have hP := swp_P hs'
  have hPP : (σ.2.2 0 7 = 15 ∧ σ.2.2 0 6 = 27) ∨ (σ.2.2 0 7 = 27 ∧ σ.2.2 0 6 = 15) := by
    rcases hs with ⟨a, b⟩ | ⟨a, b⟩
    · exact Or.inr ⟨b, a⟩
    · exact Or.inl ⟨b, a⟩
  obtain ⟨x, hst⟩ := hm.1.2.2.1.2.2.1
  obtain ⟨⟨s1, s2⟩, e1, h1⟩ := c_parl hT hP.1 hP2.1 rfl rfl hc.2.1.1 hc.2.1.2 hc.1.2.2.1.2.1
  obtain ⟨⟨t1, t2⟩, e2, h2⟩ := m_parl hT hm.2.1.1 hm.2.1.2 hm.1.1 hst hm.1.2.2.1.2.2.2
  unfold cParR at h1
  unfold mParR at h2
  (try dsimp only at h1 h2)
  cases hx : sFull A.T with
  | inl er =>
    rw [hx] at h1 h2
    obtain ⟨s0, -, hf, hr⟩ := h1
    obtain ⟨rfl, m01, m7, m8, m21, mf⟩ := h2
    obtain ⟨rfl, rfl⟩ := Prod.mk.inj hr
    have e : ∀ t j, ¬ qD (σ.2.2 0 7) t → s0.1 t j = (fhI σ 0 1 (0 : Int32)).1 t j ∧ s0.2.2 t j = σ.2.2 t j := fun t j h => hf.1 t j h
    have eo : ∀ t j, ¬ qD (σ.2.2 0 7) t → t ≠ 0 → t ≠ 101 → (fhI (fhI (fhI s0 0 17 (nI er.1)) 0 18 (nI er.2)) 101 1 (σ.1 101 1 + 1)).1 t j = σ.1 t j := fun t j h a b => by
      rw [fhI_o b, fhI_o a, fhI_o a, (e t j h).1, fhI_o a]
    have e0 : ∀ j, j ≠ 1 → j ≠ 17 → j ≠ 18 → (fhI (fhI (fhI s0 0 17 (nI er.1)) 0 18 (nI er.2)) 101 1 (σ.1 101 1 + 1)).1 0 j = σ.1 0 j := fun j a b c => by
      rw [fhI_o (by decide), fhI_s c, fhI_s b, (e 0 j (by unfold qD pD; omega)).1, fhI_s a]
    have er0 : ∀ t j, t = 0 ∨ t = 76 → s0.2.2 t j = σ.2.2 t j := fun t j h => (e t j (by unfold qD pD; omega)).2
    refine ⟨(-1 : Int32), _, t2, aqU (afU (aTU A (T0 A.T 0)) (nI er.1, nI er.2)) 1, e1, e2, ⟨⟨?_, ?_, cGm_k2 hc.1.2.2.1 (fun t j z => eo t j (by unfold kpC2 at z; unfold qD pD; omega) (by unfold kpC2 at z; omega) (by unfold kpC2 at z; omega)), ahF_k hc.1.2.2.2.1 (fun t j z => eo t j (by unfold qD pD; omega) (by omega) (by omega)), anC_k hc.1.2.2.2.2 (fun t j z => eo t j (by unfold qD pD; omega) (by omega) (by omega)) (fun j => er0 76 j (Or.inr rfl))⟩, ?_⟩, ⟨⟨?_, ?_, ?_, ?_⟩, ?_⟩, ?_⟩
    · show swp (s0.2.2 0 6) (s0.2.2 0 7) 15 27
      rw [er0 0 6 (Or.inl rfl), er0 0 7 (Or.inl rfl)]
      exact hs
    · have ht := hc.1.2.1
      show tdF A.p _
      cases hp : A.p with
      | none =>
        rw [hp] at ht
        obtain ⟨a, b, c, d⟩ := ht
        have r6 : (fhI (fhI (fhI s0 0 17 (nI er.1)) 0 18 (nI er.2)) 101 1 (σ.1 101 1 + 1)).2.2 0 6 = σ.2.2 0 6 := er0 0 6 (Or.inl rfl)
        exact ⟨by rw [e0 8 (by decide) (by decide) (by decide)]; exact a, by rw [r6, eo _ 9 (by unfold qD pD; omega) (by omega) (by omega)]; exact b, by rw [r6, eo _ 11 (by unfold qD pD; omega) (by omega) (by omega)]; exact c, by rw [eo 75 0 (by unfold qD pD; omega) (by decide) (by decide)]; exact d⟩
      | some p =>
        rw [hp] at ht
        obtain ⟨a, out, b⟩ := ht
        have r6 : (fhI (fhI (fhI s0 0 17 (nI er.1)) 0 18 (nI er.2)) 101 1 (σ.1 101 1 + 1)).2.2 0 6 = σ.2.2 0 6 := er0 0 6 (Or.inl rfl)
        exact ⟨by rw [e0 8 (by decide) (by decide) (by decide)]; exact a, out, by rw [r6]; exact cRp_fr b (fun t j x y => eo t j (by unfold qD pD; omega) (by omega) (by omega))⟩
    · obtain ⟨⟨x1, x2⟩, ⟨y1, y2⟩, c, ⟨d1, d2⟩, z1, f1, f2⟩ := hc.2
      refine ⟨⟨?_, fun j hj => absurd hj (Nat.not_lt_zero _)⟩, ⟨by rw [eo _ _ (by unfold qD pD; omega) (by decide) (by decide)]; exact y1, fun k hk => by rw [eo _ _ (by unfold qD pD; omega) (by decide) (by decide)]; exact y2 k hk⟩, fun k hk => ?_, ⟨?_, ?_⟩, by rw [e0 _ (by decide) (by decide) (by decide)]; exact z1, by rw [e0 _ (by decide) (by decide) (by decide)]; exact f1, fun j hj => by rw [eo _ _ (by unfold qD pD; omega) (by decide) (by decide)]; exact f2 j hj⟩
      · rw [fhI_o (by decide), fhI_s (by decide), fhI_s (by decide), (e 0 1 (by unfold qD pD; omega)).1, fhI_e]
        rfl
      · show _ = if k = 1 then A.q k + 1 else A.q k
        by_cases y : k = 1
        · rw [if_pos y, y, fhI_e, c 1 (by decide)]
        · rw [if_neg y, fhI_s y, fhI_o (by decide), fhI_o (by decide), (e 101 k (by unfold qD pD; omega)).1, fhI_o (by decide)]
          exact c k hk
      · rw [fhI_o (by decide), fhI_s (by decide), fhI_e]
        rfl
      · rw [fhI_o (by decide), fhI_e]
        rfl
    · exact mW_k2 hm.1.1 (fun t j z => (mf.1 t j (by unfold kpW at z; unfold nD kD sD rD mD; omega)).1)
    · have ht := hm.1.2.1
      show tdM A.p t2
      cases hp : A.p with
      | none =>
        rw [hp] at ht
        exact ⟨by rw [(mf.1 0 47 (by unfold nD kD sD rD mD; omega)).1]; exact ht.1, by rw [(mf.1 29 7 (by unfold nD kD sD rD mD; omega)).1]; exact ht.2⟩
      | some p =>
        rw [hp] at ht
        exact ⟨by rw [(mf.1 0 47 (by unfold nD kD sD rD mD; omega)).1]; exact ht.1, by rw [(mf.1 29 7 (by unfold nD kD sD rD mD; omega)).1]; exact ht.2.1, by rw [(mf.1 29 9 (by unfold nD kD sD rD mD; omega)).1]; exact ht.2.2.1, fun g w hg => by rw [(mf.1 30 (5 + g) (by unfold nD kD sD rD mD; omega)).2]; exact ht.2.2.2 g w hg⟩
    · exact mGm_k2 hm.1.2.2.1 (fun t j z => (mf.1 t j (by unfold kpQ2 at z; unfold nD kD sD rD mD; omega)).1)
    · exact knT_k hm.1.2.2.2 (fun j => (mf.1 40 j (by unfold nD kD sD rD mD; omega)).1)
    · obtain ⟨⟨x1, x2⟩, ⟨y1, y2⟩, c, ⟨d1, d2⟩, z1, f1, f2⟩ := hm.2
      refine ⟨⟨m01, fun j hj => absurd hj (Nat.not_lt_zero _)⟩, ⟨by rw [(mf.1 0 68 (by unfold nD kD sD rD mD; omega)).1]; exact y1, fun k hk => by rw [(mf.1 50 k (by unfold nD kD sD rD mD; omega)).1]; exact y2 k hk⟩, fun k hk => ?_, ⟨m7, m8⟩, by rw [(mf.1 0 73 (by unfold nD kD sD rD mD; omega)).2]; exact z1, by rw [(mf.1 0 109 (by unfold nD kD sD rD mD; omega)).1]; exact f1, fun j hj => by rw [(mf.1 79 j (by unfold nD kD sD rD mD; omega)).1]; exact f2 j hj⟩
      show _ = if k = 1 then A.q k + 1 else A.q k
      by_cases y : k = 1
      · rw [if_pos y, y, m21, c 1 (by decide)]
      · rw [if_neg y, (mf.1 2 k (by unfold nD kD sD rD mD; omega)).1]
        exact c k hk
    · exact AV_T (AV_s hv) (Nat.zero_le _)
  | inr p =>
    rw [hx] at h1 h2
    obtain ⟨rfl, g1, g2, g3, g4, ⟨out, g5⟩, ⟨k, ho⟩, g6, g7, g8, g9, g10, g11, g12, g13, g14, g15⟩ := h1
    obtain ⟨rfl, m7, m8, mg, mk, m68, m47, mst, -, m21, m01, mf⟩ := h2
    have e : ∀ t j, ¬ pmD t j → t2.1 t j = τ.1 t j ∧ t2.2.1 t j = τ.2.1 t j := fun t j h => mf.1 t j h
    have hw := sOK_wrn ho
    refine ⟨nI p.n, s2, t2, aPU A p, e1, e2, ⟨⟨?_, ⟨g9, out, ?_⟩, g1, Or.inl g2, ?_, Or.inl g3⟩, ?_⟩, ⟨⟨?_, ⟨m47, mst⟩, mg, mk⟩, ?_⟩, ?_⟩
    · rw [g6, g7]
      exact hs'
    · rw [g6]
      exact g5
    · obtain ⟨a, b, c, d, r1, r2, r3, r4, r5, r6⟩ := hc.1.2.2.2.2.1
      exact ⟨a, b, c, d, r1, r2, by rw [g14]; exact r3, by rw [g14]; exact r4, by rw [g14]; exact r5, by rw [g14]; exact r6⟩
    · obtain ⟨⟨x1, x2⟩, ⟨y1, y2⟩, c, ⟨d1, d2⟩, z1, f1, f2⟩ := hc.2
      exact ⟨⟨g8, fun j hj => absurd hj (Nat.not_lt_zero _)⟩, ⟨(show s2.1 76 13 = nI (0 / 3) from by rw [g4]; rfl), fun k (hk : k < 0 / 3) => absurd hk (by omega)⟩, fun k hk => by rw [g12 101 k (by unfold cpD qD pD bD aDc gD4; omega) (by decide) (by decide)]; exact c k hk, ⟨g10, g11⟩, by rw [g13 16 (by decide) (by decide) (by decide) (by decide)]; exact z1, by rw [g13 14 (by decide) (by decide) (by decide) (by decide)]; exact f1, fun j hj => by rw [g12 99 j (by unfold cpD qD pD bD aDc gD4; omega) (by decide) (by decide)]; exact f2 j hj⟩
    · exact mW_k2 hm.1.1 (fun t j z => (e t j (by unfold kpW at z; unfold pmD nD stD lD kD sD rD mD rnD sgD aDm; omega)).1)
    · obtain ⟨⟨x1, x2⟩, ⟨y1, y2⟩, c, ⟨d1, d2⟩, z1, f1, f2⟩ := hm.2
      refine ⟨⟨m01, fun j hj => absurd hj (Nat.not_lt_zero _)⟩, ⟨(show t2.1 0 68 = nI (0 / 3) from by rw [m68]; rfl), fun k (hk : k < 0 / 3) => absurd hk (by omega)⟩, fun k hk => ?_, ⟨m7, m8⟩, by rw [(e 0 73 (by unfold pmD nD stD lD kD sD rD mD rnD sgD aDm; omega)).2]; exact z1, by rw [(e 0 109 (by unfold pmD nD stD lD kD sD rD mD rnD sgD aDm; omega)).1]; exact f1, fun j hj => by rw [(e 79 j (by unfold pmD nD stD lD kD sD rD mD rnD sgD aDm; omega)).1]; exact f2 j hj⟩
      by_cases y : k = 1
      · rw [y, m21]
        exact c 1 (by decide)
      · rw [(e 2 k (by unfold pmD nD stD lD kD sD rD mD rnD sgD aDm; omega)).1]
        exact c k hk
    · obtain ⟨p1, p2, p3, p4, p5, p6, p7, p8⟩ := AV_s hv
      have hal : (wOf p).al (wrn p) = true := by
        show (decide (wrn p < p.m ^ p.gs.length) && alw p (wrn p)) = true
        rw [decide_eq_true hw.1, sFull_al hx]
        rfl
      exact ⟨⟨Nat.zero_le _, hv.1.2⟩, ⟨⟨A.T, k, ho⟩, ⟨rl_mem.mpr ⟨hw.1, hal⟩, fun r h => h, Nat.zero_le _⟩, fun G hG => by cases hG⟩, trivial, Nat.zero_le _, Nat.zero_le _, ⟨(show (0:Nat) % 3 = 0 from rfl), (show 0 / 3 ≤ 16 by decide), fun j (hj : j < 0 / 3) => absurd hj (by omega), p6.2.2.2⟩, p7, p8⟩
end
