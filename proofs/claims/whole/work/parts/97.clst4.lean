/-! THE CLASS READS A TEXT -/
section
variable {T : tT} {m P : Nat}
/-- the first statement -/
theorem cs_stm0 (hT : tOK T) (hm : tend T m) (hP : fhiP P = true) {k : Nat} {σ : fhM} (hc : cP T m k σ) (hk0 : k ≤ m) {p : fhPS} (hz : p.n = 0 ∧ p.gs = [] ∧ p.ru = [] ∧ p.fa = [] ∧ p.sl = 0 ∧ ∀ a, p.bl a = 0) (hr : cRp P p [] σ) : wq (f_X7_readStatement P σ) (fun s2 => cRes T m P (stm0 T p k) s2 ∧ fpl (pD P) σ s2) := by
  have hp := ph_P hP
  obtain ⟨p1, p2, p3, p4, p5, p6⟩ := hz
  obtain ⟨y1, y2⟩ := sw_all hm hc hr ⟨by omega, by rw [p2]; exact Nat.zero_le _, by rw [p3]; exact Nat.zero_le _, by rw [p4]; exact Nat.zero_le _⟩
  have hwl := wrd_lt T k
  have hfu : ¬ fulL p (wrd T k) := by
    unfold fulL
    rw [p1, p2, p3, p4, List.length_nil]
    rintro (z | ⟨_, z⟩ | ⟨_, z⟩ | ⟨_, z⟩) <;> cases z
  rw [cs_body_e, y2 hfu, sw83_0 hwl (by rw [hr.1, p1]; rfl)]
  unfold stm0
  by_cases q0 : wrd T k = 0
  · have hi := (wrd_is (T := T) (k := k) (j := 0) (by decide)).mpr q0
    have hkm := c_kd hm (isw_k hi)
    rw [if_pos q0, gif_t hi]
    obtain ⟨a, f⟩ := c_adv hT hm hkm hc
    have f1 : fpl (pD P) σ (f_X8_advance σ) := fpl_r f (fun _ _ z => cDf_pD (cDa_f z))
    have hr2 : cRp P p [] (f_X8_advance σ) := cRp_fr hr (fun t j h1 h2 => f.2 t j (by unfold cDa; omega))
    dsimp only
    unfold cs_body
    rw [if_pos (show nI (wrd T k) = (0 : Int32) by rw [q0]; rfl), wq_let]
    generalize f_X8_advance σ = σ1 at *
    obtain ⟨n1, n2, n3⟩ := c_tnw (lo := 2) (hi := 4) hT hm a (by decide) (by decide)
    rw [show (2 : Int32) = nI 2 from rfl, show (4 : Int32) = nI 4 from rfl]
    have f2 : fpl (pD P) σ (f_X8_takeNumberWithin (nI 2) (nI 4) σ1).2 := fpl_tr f1 (fpl_r n3 (fun _ _ => cDf_pD))
    by_cases q : (nF T (k + 1) 2 4).1 = 0
    · obtain ⟨n4, n5⟩ := n1 q
      obtain ⟨z1, z2, z3, z4⟩ := nF_0 q
      have hkm2 := c_kd hm (show kd T (k + 1) ≠ 0 by omega)
      have hr3 : cRp P p [] (f_X8_takeNumberWithin (nI 2) (nI 4) σ1).2 := cRp_fr hr2 (fun t j h1 h2 => n3.2 t j (by unfold cDf; omega))
      rw [gif_t q, n5]
      generalize (f_X8_takeNumberWithin (nI 2) (nI 4) σ1).2 = σ2 at *
      obtain ⟨h1, h2, h3, h4, h5, h6, h7, h8, h9, h10, h11, h12⟩ := hr3
      refine wq_mono (cs_semi (p := (fhPS.wm p (nv T (k + 1)))) (out := []) (k := k + 2) hT hm hP (cP_fr n4 (fun j => ?_) (fun j => ?_)) (by omega) ?_ (Nat.zero_le _) (by show p.n < 60; omega) ?_) (fun s2 z => ⟨z.1, fpl_tr (fpl_I f2 (by unfold pD; omega)) z.2⟩)
      · simp (disch := omega) only [fhI_e, fhI_o, fhI_s]
      · simp (disch := omega) only [fhI_e, fhI_o, fhI_s]
      · refine ⟨?_, ?_, cN_fr h3 (by simp (disch := omega) only [fhI_e, fhI_o, fhI_s]) (fun i => by simp (disch := omega) only [fhI_e, fhI_o, fhI_s]), ?_, ?_, ?_, ?_, ?_, ?_, cTs_fr h10 (fun j => by simp (disch := omega) only [fhI_e, fhI_o, fhI_s]), cTs_fr h11 (fun j => by simp (disch := omega) only [fhI_e, fhI_o, fhI_s]), cS_fr h12 (by simp (disch := omega) only [fhI_e, fhI_o, fhI_s]) (fun i => by simp (disch := omega) only [fhI_e, fhI_o, fhI_s])⟩
        · simp (disch := omega) only [fhI_e, fhI_o, fhI_s]; exact h1
        · simp (disch := omega) only [fhI_e, fhI_o, fhI_s]
        · simp (disch := omega) only [fhI_e, fhI_o, fhI_s]; exact h4
        · simp (disch := omega) only [fhI_e, fhI_o, fhI_s]; exact h5
        · simp (disch := omega) only [fhI_e, fhI_o, fhI_s]; exact h6
        · simp (disch := omega) only [fhI_e, fhI_o, fhI_s]; rw [h7]; show nI (wsum p.m (p.gs.map Prod.snd)) = nI (wsum (nv T (k + 1)) (p.gs.map Prod.snd)); rw [p2]; rfl
        · simp (disch := omega) only [fhI_e, fhI_o, fhI_s]; rw [h8]; show nI (p.m ^ p.gs.length) = nI (nv T (k + 1) ^ p.gs.length); rw [p2, List.length_nil, Nat.pow_zero, Nat.pow_zero]
        · intro x hx; simp (disch := omega) only [fhI_e, fhI_o, fhI_s]; exact h9 x hx
      · by_cases q6 : isg T (k + 2) 59
        · left
          have hk3 := kd_num (isg_k q6)
          refine ⟨by show 1 ≤ p.n + 1; omega, by show p.n + 1 ≤ 60; omega, z3, z4, by show p.gs.length ≤ 5; rw [p2]; exact Nat.zero_le _, ?_, fun a => by show p.bl a < 32; rw [p6]; decide, by show p.ru.length ≤ 4; rw [p3]; exact Nat.zero_le _, by show p.fa.length ≤ 8; rw [p4]; exact Nat.zero_le _, by show p.sl ≤ 100; rw [p5]; exact Nat.zero_le _, ?_, ?_, by omega⟩
          · intro x hx
            have hx : x ∈ p.gs := hx
            rw [p2] at hx; cases hx
          · intro c hc
            have hc : c ∈ p.ru ∨ c ∈ p.fa := hc
            rw [p3, p4] at hc
            rcases hc with z | z <;> cases z
          · show (p.ru.map List.length).sum + (p.fa.map List.length).sum ≤ _
            rw [p3, p4]
            exact Nat.zero_le _
        · exact Or.inr q6
    · have hF := n2 q
      rw [gif_f q]
      exact wq_mono (cs_semiN hP (cF_fr hF (fun j => fhI_o (by omega)))) (fun s2 z => ⟨z.1, fpl_tr (fpl_I f2 (by unfold pD; omega)) z.2⟩)
  · rw [if_neg q0, gif_f (fun z => q0 ((wrd_is (by decide)).mp z))]
    obtain ⟨a, b⟩ := c_failHere hc
    dsimp only
    rw [c_advN a]
    exact wq_mono (cs_bodyN hP a _) (fun s2 z => ⟨z.1, fpl_tr (fpl_r b (fun _ _ => cDf_pD)) z.2⟩)
end
section
variable {T : tT} {m P : Nat}
def cResA (T : tT) (m P : Nat) (r : (Nat × Nat) ⊕ fhPS) (s : fhM) : Prop := match r with
  | .inl e => cF e s
  | .inr p => ∃ k, cSt T m P p k s ∧ kd T k = 0
theorem c_isEnd {k : Nat} {σ : fhM} (h : cP T m k σ) : (f_X8_isEnd σ = true) = (kd T k = 0) := by
  have a1 := kd_le4 T k
  unfold f_X8_isEnd
  rw [h.2.2.2.2.2.2.2.1]
  by_cases q : kd T k = 0
  · rw [if_pos (show nI (kd T k) = (0 : Int32) by rw [q]; rfl)]; exact propext ⟨fun _ => q, fun _ => rfl⟩
  · rw [if_neg (show ¬ nI _ = (0 : Int32) from nIn q (b := 0) (by omega) (by decide))]; exact propext ⟨fun z => (by cases z), fun z => absurd z q⟩
theorem c_isEndN {e : Nat × Nat} {σ : fhM} (h : cF e σ) : f_X8_isEnd σ = false := by
  unfold f_X8_isEnd
  rw [h.2.2.1, if_neg (show ¬ (4 : Int32) = 0 by decide)]
theorem c_going {k : Nat} {σ : fhM} (h : cP T m k σ) : (f_X8_isGoingOn σ = true) = (kd T k ≠ 0) := by
  have a1 := kd_le4 T k
  unfold f_X8_isGoingOn
  rw [h.2.2.2.2.2.2.2.1]
  by_cases q : kd T k = 0
  · rw [if_pos (show nI (kd T k) = (0 : Int32) by rw [q]; rfl)]; exact propext ⟨fun z => (by cases z), fun z => absurd q z⟩
  · rw [if_neg (show ¬ nI _ = (0 : Int32) from nIn q (b := 0) (by omega) (by decide)), if_pos h.2.2.2.1]; exact propext ⟨fun _ => q, fun _ => rfl⟩
theorem c_goingN {e : Nat × Nat} {σ : fhM} (h : cF e σ) : f_X8_isGoingOn σ = false := by
  unfold f_X8_isGoingOn
  rw [h.2.2.1, if_neg (show ¬ (4 : Int32) = 0 by decide), if_neg (cF_n h)]
/-- the loop's end, behind a fault -/
theorem cs_loopN {e : Nat × Nat} {σ : fhM} (h : cF e σ) (i : Nat) (hi : i ≤ 61) {Q : Int32 × fhM → Prop} (hQ : wq (f_X11_parlour_46 σ) Q) : wq (fhlp (fun x => f_X11_parlour_17 x.1 x.2) (nI i, σ)) Q := by
  refine wq_step ?_
  (try dsimp only)
  (try unfold f_X11_parlour_17)
  (try dsimp only)
  split
  · rw [wq_map]; exact wq_mono hQ (fun s z => z)
  · rw [c_goingN h, if_neg (by decide), wq_map]
    exact wq_mono hQ (fun s z => z)
theorem gif_inr {c : Prop} {a b : gS} {x : Nat × fhPS} (h : gif c a b = .inr x) : a = .inr x ∨ b = .inr x := by
  by_cases q : c
  · rw [gif_t q] at h; exact Or.inl h
  · rw [gif_f q] at h; exact Or.inr h
theorem semi_n {T : tT} {k : Nat} {p : fhPS} {x : Nat × fhPS} (h : semi T k p = .inr x) : x.2.n = p.n + 1 := by
  unfold semi at h
  rcases gif_inr h with h | h
  · cases h; rfl
  · cases h
theorem stm_n {T : tT} {p : fhPS} {k : Nat} {x : Nat × fhPS} (h : stm T p k = .inr x) : x.2.n = p.n + 1 := by
  unfold stm at h
  rcases gif_inr h with h | h
  · cases h
  rcases gif_inr h with h | h
  · rcases gif_inr h with h | h
    · cases h
    · unfold sGuest at h
      rcases gif_inr h with h | h
      · rcases gif_inr h with h | h
        · cases h
        rcases gif_inr h with h | h
        · rcases gif_inr h with h | h
          · have z := semi_n h
            exact z
          · cases h
        · cases h
      · cases h
  rcases gif_inr h with h | h
  · unfold sBlind at h
    rcases gif_inr h with h | h
    · cases hx : nix p.nl 0 (lt T (k + 1)) with
      | none => rw [hx] at h; cases h
      | some a =>
        rw [hx] at h
        dsimp only at h
        rcases gif_inr h with h | h
        · rcases gif_inr h with h | h
          · cases hy : nix p.nl 0 (lt T (k + 1 + 2)) with
            | none => rw [hy] at h; cases h
            | some b =>
              rw [hy] at h
              dsimp only at h
              rcases gif_inr h with h | h
              · cases h
              · have z := semi_n h
                exact z
          · cases h
        · cases h
    · cases h
  have test : ∀ is, sTest T p is (k + 1) = .inr x → x.2.n = p.n + 1 := by
    intro is h
    unfold sTest at h
    cases hx : rdT T false p.nl 0 (k + 1) with
    | inl e => rw [hx] at h; cases h
    | inr y =>
      rw [hx] at h
      dsimp only at h
      rw [semi_n h]
      cases is <;> rfl
  rcases gif_inr h with h | h
  · rcases gif_inr h with h | h
    · cases h
    · exact test _ h
  rcases gif_inr h with h | h
  · rcases gif_inr h with h | h
    · cases h
    · exact test _ h
  rcases gif_inr h with h | h
  · unfold sSlip at h
    rcases gif_inr h with h | h
    · have z := semi_n h
      exact z
    · cases h
  · cases h
/-- the loop from a state on -/
theorem cs_loop (hT : tOK T) (hm : tend T m) (hP : fhiP P = true) {Q : Int32 × fhM → Prop} : ∀ (f k : Nat) (p : fhPS) (σ : fhM), cSt T m P p k σ → σ.2.2 0 7 = P → p.n + f = 61 → (∀ s, cResA T m P (sAll T f p k) s → fpl (pD P) σ s → wq (f_X11_parlour_46 s) Q) → wq (fhlp (fun x => f_X11_parlour_17 x.1 x.2) (nI p.n, σ)) Q := by
  have hp := ph_P hP
  intro f
  induction f with
  | zero =>
    intro k p σ h _ hf _
    have := h.2.2.1.2.1
    omega
  | succ f ih =>
    intro k p σ h h7 hf hQ
    have hn1 := h.2.2.1.1
    have hn2 := h.2.2.1.2.1
    refine wq_step ?_
    (try dsimp only)
    (try unfold f_X11_parlour_17)
    (try dsimp only)
    rw [if_neg (show ¬ (60 : Int32) < nI p.n from nI_nlt (a := 60) (by omega) (by omega))]
    unfold sAll at hQ
    by_cases q : kd T k = 0
    · rw [gif_t q] at hQ
      rw [if_neg (by rw [c_going h.1]; exact fun z => z q), wq_map]
      exact wq_mono (hQ σ ⟨k, h, q⟩ fpl_rf) (fun s z => z)
    · rw [gif_f q] at hQ
      rw [if_pos (by rw [c_going h.1]; exact q), h7, if_pos hP, wq_bind]
      refine wq_mono (cs_stm hT hm hP h) (fun s z => ?_)
      rw [wq_some, fhK_l]
      obtain ⟨z1, z2⟩ := z
      have s7 : s.2.2 0 7 = P := by rw [(z2.1 0 7 (by unfold pD; omega)).2]; exact h7
      cases hx : stm T p k with
      | inl e =>
        rw [hx] at hQ z1
        have z1 : cF e s := z1
        rw [nI_1]
        exact cs_loopN z1 _ (by omega) (hQ s z1 z2)
      | inr x =>
        rw [hx] at hQ z1
        have z1 : cSt T m P x.2 x.1 s := z1
        have hn : x.2.n = p.n + 1 := stm_n hx
        rw [nI_1, ← hn]
        exact ih x.1 x.2 s z1 s7 (by omega) (fun s2 h2 f2 => hQ s2 h2 (fpl_tr z2 f2))
end
