/-! THE REFERENCE LAYS ALL TESTS -/
theorem mRp_all {p : fhPS} {σ s : fhM} (h : mRp p σ) (e : ∀ t j, (29 ≤ t ∧ t ≤ 35) ∨ (t = 0 ∧ (j = 45 ∨ j = 46)) → s.1 t j = σ.1 t j ∧ s.2.1 t j = σ.2.1 t j) : mRp p s := by
  obtain ⟨h1, h2, h3, h4, h5, h6, h7, h8, h9, h10, h11⟩ := h
  refine ⟨by rw [(e 0 46 (by omega)).1]; exact h1, by rw [(e 29 0 (by omega)).1]; exact h2, ⟨by rw [(e 29 1 (by omega)).1]; exact h3.1, h3.2.1, fun g l hg => ?_⟩, by rw [(e 29 2 (by omega)).1]; exact h4, by rw [(e 29 3 (by omega)).1]; exact h5, by rw [(e 29 4 (by omega)).1]; exact h6, fun g x hx => by rw [(e 31 g (by omega)).1]; exact h7 g x hx, fun a ha => by rw [(e 32 a (by omega)).1]; exact h8 a ha,
    mTs_fr h9 (fun j => (e 33 j (by omega)).1) (fun j => (e 34 j (by omega)).1) (fun j _ => (e 35 j (by omega)).1), mTs_fr h10 (fun j => (e 33 j (by omega)).1) (fun j => (e 34 j (by omega)).1) (fun j _ => (e 35 j (by omega)).1), by rw [(e 0 45 (by omega)).1]; exact h11⟩
  rw [(e 30 g (by omega)).2]
  exact h3.2.2 g l hg
theorem alT_all {p : fhPS} {t r : Nat} (h : p.ru.length ≤ t) : alT p t r = alw p r := by
  unfold alT alw
  rw [List.take_of_length_le h]
theorem trT_all {p : fhPS} {t r : Nat} (h : p.fa.length ≤ t) : trT p t r = tru p r := by
  unfold trT tru
  rw [List.take_of_length_le h]
def lD (t j : Nat) : Prop := t = 37 ∨ t = 38 ∨ t = 39 ∨ kD t j ∨ (t = 0 ∧ j = 53)
theorem m_laysTests {p : fhPS} {T : tT} {k0 : Nat} (hT : T.2 ≤ 1600) (ho : sOK T p k0) {σ : fhM} (hr : mRp p σ) (h5 : σ.1 29 5 = nI p.m) (h6 : σ.1 29 6 = nI p.gs.length) (h52 : σ.1 0 52 = nI (p.m ^ p.gs.length)) (h32 : ∀ i, i < p.gs.length → σ.1 32 (5 + i) = nI (sbP p i)) :
    wq (f_X12_laysTests σ) (fun s => frl lD σ s ∧ (∀ r, r < p.m ^ p.gs.length → s.1 37 r = nI (if alw p r = true then 1 else 0)) ∧ (∀ r, r < p.m ^ p.gs.length → s.1 38 r = nI (tru p r)) ∧ (∀ r i, r < p.m ^ p.gs.length → i < p.gs.length → s.1 39 (1024 * i + r) = nI (vwP p r i)) ∧ s.1 0 53 = nI (rl (p.m ^ p.gs.length) (wOf p).al).length) := by
  obtain ⟨w1, w2⟩ := sOK_wrn ho
  have ho' := ho
  obtain ⟨o1, o2, o3, o4, o5, o6, o7, o8, o9, o10, o11, o12, o13⟩ := ho'
  unfold f_X12_laysTests
  refine wq_for (R := fun v x => ∃ s, x = (nI v, s) ∧ frl (fun t j => t = 37 ∨ t = 38 ∨ t = 39) σ s ∧ (∀ r, r < v → s.1 37 r = 1) ∧ (∀ r, r < v → s.1 38 r = 0) ∧ ∀ r i, r < v → i < p.gs.length → s.1 39 (1024 * i + r) = nI (vwP p r i)) 0 (p.m ^ p.gs.length) (Nat.zero_le _) ?_ ?_ ⟨σ, rfl, frl_rf, fun r hr => absurd hr (Nat.not_lt_zero _), fun r hr => absurd hr (Nat.not_lt_zero _), fun r i hr => absurd hr (Nat.not_lt_zero _)⟩
  · rintro v x - hv ⟨s, rfl, hf, g37, g38, g39⟩
    (try dsimp only)
    unfold f_X12_laysTests_2
    have e : ∀ t j, t ≠ 37 → t ≠ 38 → t ≠ 39 → s.1 t j = σ.1 t j := fun t j h1 h2 h3 => (hf.1 t j (by omega)).1
    rw [e _ _ (by decide) (by decide) (by decide), h52, if_neg (nI_ge hv (by omega)), ph_in (by omega), decide_eq_true (show v < 1024 by omega), if_pos (show (true && (true && true)) = true from rfl), ph_ix (by omega), show (1 : Int32) &&& 1 = 1 by decide]
    refine wq_for (R := fun i x => ∃ s2, x = (nI i, s2) ∧ frl (fun t j => t = 37 ∨ t = 38 ∨ t = 39) σ s2 ∧ (∀ r, r < v + 1 → s2.1 37 r = 1) ∧ (∀ r, r < v + 1 → s2.1 38 r = 0) ∧ (∀ r a, r < v → a < p.gs.length → s2.1 39 (1024 * a + r) = nI (vwP p r a)) ∧ ∀ a, a < i → s2.1 39 (1024 * a + v) = nI (vwP p v a)) 0 p.gs.length (Nat.zero_le _) ?_ ?_ ⟨_, rfl, frl_I (frl_I hf (by omega)) (by omega), fun r hr => ?_, fun r hr => ?_, fun r a h1 h2 => ?_, fun a ha => absurd ha (Nat.not_lt_zero _)⟩
    · rintro i x - hi ⟨s2, rfl, hf2, k37, k38, k39, k39v⟩
      (try dsimp only)
      unfold f_X12_laysTests_26 f_X12_guestMany
      have e2 : ∀ t j, t ≠ 37 → t ≠ 38 → t ≠ 39 → s2.1 t j = σ.1 t j := fun t j h1 h2 h3 => (hf2.1 t j (by omega)).1
      have hk : f_X12_keyOf (nI v) (nI i) s2 = some (nI (vwP p v i)) := m_keyOf ⟨o3, o4⟩ o5 (by rw [e2 _ _ (by decide) (by decide) (by decide)]; exact h5) (by rw [e2 _ _ (by decide) (by decide) (by decide)]; exact h6) (by omega) (by omega) (by rw [e2 _ _ (by decide) (by decide) (by decide)]; exact h32 i hi)
      rw [e2 _ _ (by decide) (by decide) (by decide), h6, if_neg (nI_ge hi (by omega)), hk, wq_bind, wq_some, show (1024 : Int32) = nI 1024 from rfl, pk_mul, nI_add, if_pos (ph_in1 (by omega) (by omega)), ph_ix (by omega), nI_1, wq_some, fhK_l]
      refine ⟨_, rfl, frl_I hf2 (by omega), fun r hr => ?_, fun r hr => ?_, fun r a h1 h2 => ?_, fun a ha => ?_⟩
      · rw [fhI_o (by decide)]; exact k37 r hr
      · rw [fhI_o (by decide)]; exact k38 r hr
      · rw [fhI_s (by omega)]; exact k39 r a h1 h2
      · by_cases q : a = i
        · rw [q, fhI_e]
        · rw [fhI_s (by omega)]; exact k39v a (by omega)
    · rintro x ⟨s2, rfl, hf2, k37, k38, k39, k39v⟩
      (try dsimp only)
      unfold f_X12_laysTests_26 f_X12_guestMany
      have e2 : ∀ t j, t ≠ 37 → t ≠ 38 → t ≠ 39 → s2.1 t j = σ.1 t j := fun t j h1 h2 h3 => (hf2.1 t j (by omega)).1
      rw [e2 _ _ (by decide) (by decide) (by decide), h6, if_pos (nI_le (Nat.le_refl _) (by omega)), nI_1, wq_some, fhK_r, fhK_l]
      refine ⟨s2, rfl, hf2, k37, k38, fun r a h1 h2 => ?_⟩
      by_cases q : r = v
      · rw [q]; exact k39v a h2
      · exact k39 r a (by omega) h2
    · rw [fhI_o (by decide), fhI_r]
      by_cases q : r = v
      · rw [if_pos ⟨rfl, q⟩]
      · rw [if_neg (fun z => q z.2)]; exact g37 r (by omega)
    · rw [fhI_r]
      by_cases q : r = v
      · rw [if_pos ⟨rfl, q⟩]
      · rw [if_neg (fun z => q z.2), fhI_o (by decide)]; exact g38 r (by omega)
    · rw [fhI_o (by decide), fhI_o (by decide)]; exact g39 r a h1 h2
  · rintro x ⟨σ1, rfl, hf, g37, g38, g39⟩
    (try dsimp only)
    unfold f_X12_laysTests_2
    have e : ∀ t j, t ≠ 37 → t ≠ 38 → t ≠ 39 → σ1.1 t j = σ.1 t j := fun t j h1 h2 h3 => (hf.1 t j (by omega)).1
    rw [e _ _ (by decide) (by decide) (by decide), h52, if_pos (nI_le (Nat.le_refl _) (by omega)), wq_map]
    have hr1 : mRp p σ1 := mRp_all hr (fun t j h => hf.1 t j (by omega))
    refine wq_for (R := fun t x => ∃ s, x = (nI t, s) ∧ frl (fun t j => t = 37 ∨ t = 38 ∨ kD t j) σ1 s ∧ (∀ r, r < p.m ^ p.gs.length → s.1 37 r = nI (if alT p (min t 4) r = true then 1 else 0)) ∧ (∀ r, r < p.m ^ p.gs.length → s.1 38 r = nI (trT p (t - 4) r))) 0 12 (by decide) ?_ ?_ ⟨σ1, rfl, frl_rf, fun r hr => ?_, fun r hr => ?_⟩
    · rintro t x - ht ⟨s, rfl, hf2, k37, k38⟩
      (try dsimp only)
      unfold f_X12_laysTests_66
      have e2 : ∀ a j, a ≠ 37 → a ≠ 38 → ¬ kD a j → s.1 a j = σ1.1 a j := fun a j h1 h2 h3 => (hf2.1 a j (by rintro (z | z | z); exact h1 z; exact h2 z; exact h3 z)).1
      have hr2 : mRp p s := mRp_all hr1 (fun t j h => hf2.1 t j (by unfold kD; omega))
      have q5 : s.1 29 5 = nI p.m := by rw [e2 _ _ (by decide) (by decide) (by unfold kD; omega), e _ _ (by decide) (by decide) (by decide)]; exact h5
      have q6 : s.1 29 6 = nI p.gs.length := by rw [e2 _ _ (by decide) (by decide) (by unfold kD; omega), e _ _ (by decide) (by decide) (by decide)]; exact h6
      have q52 : s.1 0 52 = nI (p.m ^ p.gs.length) := by rw [e2 _ _ (by decide) (by decide) (by unfold kD; omega), e _ _ (by decide) (by decide) (by decide)]; exact h52
      rw [if_neg (show ¬ (12 : Int32) ≤ nI t from nI_ge (b := 12) ht (by decide)), hr2.2.2.2.1, hr2.2.2.2.2.1]
      by_cases qt : t < 4
      · rw [if_neg (show ¬ (4 : Int32) ≤ nI t from nI_ge (b := 4) qt (by decide))]
        have m1 : min t 4 = t := by omega
        have m2 : min (t + 1) 4 = t + 1 := by omega
        have m3 : t - 4 = t + 1 - 4 := by omega
        rw [m1] at k37
        by_cases qr : t < p.ru.length
        · rw [if_pos (nI_lt qr (by omega))]
          have hc : p.ru[t]? = some p.ru[t] := List.getElem?_eq_getElem qr
          refine wq_mono (m_rule hT ho hr2 q5 q6 q52 hc k37) (fun y z => ?_)
          cases y with
          | inl y =>
            obtain ⟨s3, rfl, f3, z3⟩ := z
            refine ⟨s3, rfl, frl_tr hf2 (frl_mo f3 (fun a j z => by rcases z with z | z; exact Or.inl z; exact Or.inr (Or.inr z))), ?_, fun r hr => ?_⟩
            · rw [m2]; exact z3
            · rw [← m3, (f3.1 38 r (by unfold kD; omega)).1]; exact k38 r hr
          | inr y => exact z.elim
        · rw [if_neg (nI_nlt (by omega) (by omega))]
          unfold f_X12_laysTests_194
          rw [nI_1, wq_some, fhK_l]
          refine ⟨s, rfl, hf2, fun r hr => ?_, fun r hr => ?_⟩
          · rw [m2, alT_all (by omega), k37 r hr, alT_all (by omega)]
          · rw [← m3]; exact k38 r hr
      · obtain ⟨u, rfl⟩ : ∃ u, t = 4 + u := ⟨t - 4, by omega⟩
        have m1 : min (4 + u) 4 = min (4 + u + 1) 4 := by omega
        have m3 : 4 + u - 4 = u := by omega
        have m4 : 4 + u + 1 - 4 = u + 1 := by omega
        have hsub : nI (4 + u) - (4 : Int32) = nI u := by rw [show (4 : Int32) = nI 4 from rfl, pk_sub (by omega), m3]
        rw [m3] at k38
        rw [if_pos (show (4 : Int32) ≤ nI (4 + u) from nI_le (a := 4) (by omega) (by omega)), hsub]
        by_cases qr : u < p.fa.length
        · rw [if_pos (nI_lt qr (by omega))]
          have hc : p.fa[u]? = some p.fa[u] := List.getElem?_eq_getElem qr
          refine wq_mono (m_fact hT ho hr2 q5 q6 q52 hc k38) (fun y z => ?_)
          cases y with
          | inl y =>
            obtain ⟨s3, rfl, f3, z3⟩ := z
            refine ⟨s3, rfl, frl_tr hf2 (frl_mo f3 (fun a j z => by rcases z with z | z; exact Or.inr (Or.inl z); exact Or.inr (Or.inr z))), fun r hr => ?_, ?_⟩
            · rw [← m1, (f3.1 37 r (by unfold kD; omega)).1]; exact k37 r hr
            · rw [m4]; exact z3
          | inr y => exact z.elim
        · rw [if_neg (nI_nlt (by omega) (by omega))]
          unfold f_X12_laysTests_194
          rw [nI_1, wq_some, fhK_l]
          refine ⟨s, rfl, hf2, fun r hr => ?_, fun r hr => ?_⟩
          · rw [← m1]; exact k37 r hr
          · rw [m4, trT_all (by omega), k38 r hr, trT_all (by omega)]
    · rintro x ⟨s, rfl, hf2, k37, k38⟩
      (try dsimp only)
      unfold f_X12_laysTests_66
      have e2 : ∀ a j, a ≠ 37 → a ≠ 38 → ¬ kD a j → s.1 a j = σ1.1 a j := fun a j h1 h2 h3 => (hf2.1 a j (by rintro (z | z | z); exact h1 z; exact h2 z; exact h3 z)).1
      have q52 : s.1 0 52 = nI (p.m ^ p.gs.length) := by rw [e2 _ _ (by decide) (by decide) (by unfold kD; omega), e _ _ (by decide) (by decide) (by decide)]; exact h52
      rw [show min 12 4 = 4 from rfl] at k37
      rw [show 12 - 4 = 8 from rfl] at k38
      rw [if_pos (show (12 : Int32) ≤ nI 12 by decide), wq_map]
      refine wq_for (R := fun v x => x = (nI v, fhI s 0 53 (nI (rl v (wOf p).al).length))) 0 (p.m ^ p.gs.length) (Nat.zero_le _) ?_ ?_ rfl
      · rintro v x - hv rfl
        (try dsimp only)
        unfold f_X12_laysTests_207 f_X12_laysTests_234
        have hal : (wOf p).al v = alw p v := by
          show (decide (v < p.m ^ p.gs.length) && alw p v) = alw p v
          rw [decide_eq_true hv, Bool.true_and]
        rw [fhI_s (by decide), q52, if_neg (nI_ge hv (by omega)), if_pos (ph_in1 (by omega) (by omega)), ph_ix (by omega), fhI_o (by decide), k37 v hv, alT_all (by omega), fhI_e, fhI_I, nI_1, nI_1, rl_s, hal]
        by_cases q : alw p v = true
        · rw [if_pos q, if_pos q, if_neg (show ¬ nI 1 = 0 by decide), wq_some, fhK_l, List.length_append, List.length_singleton]
        · rw [if_neg q, if_neg q, if_pos (show nI 0 = 0 from rfl), wq_some, fhK_l]
      · rintro x rfl
        (try dsimp only)
        unfold f_X12_laysTests_207
        rw [fhI_s (by decide), q52, if_pos (nI_le (Nat.le_refl _) (by omega)), wq_some, fhK_r, fhK_r, fhK_r]
        refine ⟨?_, fun r hr => ?_, fun r hr => ?_, fun r i hr hi => ?_, by rw [fhI_e]⟩
        · exact frl_I (frl_tr (frl_mo hf (fun t j z => by unfold lD; omega)) (frl_mo hf2 (fun t j z => by rcases z with z | z | z; exact Or.inl z; exact Or.inr (Or.inl z); exact Or.inr (Or.inr (Or.inr (Or.inl z)))))) (by unfold lD; omega)
        · rw [fhI_o (by decide), k37 r hr, alT_all o8]
        · rw [fhI_o (by decide), k38 r hr, trT_all o9]
        · rw [fhI_o (by decide), e2 _ _ (by decide) (by decide) (by unfold kD; omega)]
          exact g39 r i hr hi
    · rw [g37 r hr]
      rfl
    · rw [g38 r hr]
      rfl
