/-! THE PAIRS: the frames of what is done; on -/
def aGU (A : aS) (G : gG) (S : List gG) : aS := (A.T, A.p, G, S, A.H, A.q, A.f, A.d, A.i)
section
variable {n : Nat} {A : aS} {σ τ : fhM}
theorem CS0_act {p : fhPS} {G G2 : gG} {S S2 : List gG} {σ s : fhM} (h : CS0 (some p) G S σ) (e : ∀ t j, ¬ aDc t → t ≠ 0 → s.1 t j = σ.1 t j) (e8 : s.1 0 8 = σ.1 0 8) (r : ∀ t j, (t = 0 ∧ j ≠ 16) ∨ t = 76 → s.2.2 t j = σ.2.2 t j) (hg : cGm (wOf p) G2 S2 s) (h57 : s.1 57 3 = 0) : CS0 (some p) G2 S2 s := by
  have hp := swp_P h.1
  obtain ⟨h1, ⟨a, out, b⟩, -, -, h5⟩ := h
  refine ⟨by rw [r 0 6 (by decide), r 0 7 (by decide)]; exact h1, ⟨by rw [e8]; exact a, out, by rw [r 0 6 (by decide)]; exact cRp_fr b (fun t j x y => e t j (by unfold aDc gD4; omega) (by omega))⟩, hg, Or.inl h57, anC_k h5 (fun t j z => e t j (by unfold aDc gD4; omega) (by omega)) (fun j => r 76 j (Or.inr rfl))⟩
theorem MS0_act {p : fhPS} {G G2 : gG} {S S2 : List gG} {τ s : fhM} (h : MS0 (some p) G S τ) (e : ∀ t j, ¬ aDm t j → (t ≠ 0 ∨ j ≠ 1) → s.1 t j = τ.1 t j) (l : ∀ j, s.2.1 30 j = τ.2.1 30 j) (hg : mGm (wOf p) G2 S2 s) : MS0 (some p) G2 S2 s := ⟨mW_k2 h.1 (fun t j z => e t j (by unfold kpW at z; unfold aDm; omega) (by unfold kpW at z; omega)), tdM_k h.2.1 (fun t j z => e t j (by unfold aDm; omega) (by omega)) l, hg, knT_k h.2.2.2 (fun j => e 40 j (by unfold aDm; omega) (by omega))⟩
theorem CS_act {p : fhPS} (hp : A.p = some p) {G2 : gG} {S2 : List gG} {s : fhM} (h : CS A σ) (hf : fpl aDc σ s) (hg : cGm (wOf p) G2 S2 s) (h57 : s.1 57 3 = 0) : CS (aGU A G2 S2) s := by
  obtain ⟨h0, h1⟩ := h
  refine ⟨?_, CS1_k h1 (fun t j z => (hf.1 t j (by unfold kpD at z; unfold aDc gD4; omega)).1)⟩
  show CS0 A.p G2 S2 s
  rw [hp] at h0 ⊢
  exact CS0_act h0 (fun t j z _ => (hf.1 t j z).1) (hf.1 0 8 (by unfold aDc gD4; omega)).1 (fun t j z => (hf.1 t j (by unfold aDc gD4; omega)).2) hg h57
theorem MS_act {p : fhPS} (hp : A.p = some p) {G2 : gG} {S2 : List gG} {s : fhM} (h : MS A τ) (hf : fr aDm τ s) (hg : mGm (wOf p) G2 S2 s) : MS (aGU A G2 S2) s := by
  obtain ⟨h0, h1⟩ := h
  refine ⟨?_, MS1_k h1 (fun t j z => hf.2 t j (by unfold kpN at z; unfold aDm; omega)) (by rw [hf.1])⟩
  show MS0 A.p G2 S2 s
  rw [hp] at h0 ⊢
  exact MS0_act h0 (fun t j z _ => hf.2 t j z) (fun j => by rw [hf.1]) hg
theorem p_on (hc : CS A σ) (hm : MS A τ) (hv : AV n A) : okQ n (f_X11_on σ) (f_X12_on τ) := by
  have hW := aW_ok hv
  obtain ⟨g1, g2, g3, g4, g5⟩ := AV_G hv
  have bad : f_X11_on σ = some (false, fhI (fhI σ 0 1 (0 : Int32)) 101 5 (σ.1 101 5 + 1)) → f_X12_on τ = some (false, fhI (fhI τ 0 1 (0 : Int32)) 2 5 (τ.1 2 5 + 1)) → okQ n (f_X11_on σ) (f_X12_on τ) := fun h1 h2 => by
    have c1 := CS_r (CS_T hc (x := 0) (Nat.zero_le _)) (k := 5) (by decide)
    have m1 := MS_r (MS_T hm (x := 0) (Nat.zero_le _)) (k := 5) (by decide)
    rw [fhI_o (show 101 ≠ 0 by decide)] at c1
    rw [fhI_o (show 2 ≠ 0 by decide)] at m1
    exact ⟨false, _, _, _, h1, h2, c1, m1, AV_T (AV_s hv) (Nat.zero_le _)⟩
  rcases told hc hm with ⟨-, h8, h47⟩ | ⟨p, hp, h8, h47⟩
  · refine bad ?_ ?_
    · unfold f_X11_on f_X11_takeTape fhlet
      (try dsimp only)
      rw [if_pos (by rw [fhI_s (by decide)]; exact h8)]
      unfold f_X11_on_21 f_X11_on_35 fhlet
      (try dsimp only)
      rw [if_pos rfl, show (5 : Int32) = nI 5 from rfl, c_refuse (by decide), fhI_o (show 101 ≠ 0 by decide)]
    · unfold f_X12_on f_X12_isImage
      rw [if_pos (by rw [fhI_s (by decide)]; exact h47)]
      rw [show ∀ f : Bool → Option (Bool × fhM), Option.bind (some false) f = f false from fun _ => rfl]
      (try dsimp only)
      rw [if_neg (by decide), show (5 : Int32) = nI 5 from rfl, m_refused (by decide), fhI_o (show 2 ≠ 0 by decide)]
      rfl
  · have h0 := hv.2.1
    rw [hp] at h0
    obtain ⟨⟨T', k, ho⟩, -, -⟩ := h0
    obtain ⟨hNm, hm2⟩ := wOf_N ho
    have hgc := hc.1.2.2.1
    have hgm := hm.1.2.2.1
    rw [hp] at hgc hgm hW g4
    obtain ⟨⟨s1, s2⟩, e1, h1⟩ := c_on hW hNm hm2 hv.1 hgc hc.2.1.1 hc.2.1.2 h8
    obtain ⟨⟨t1, t2⟩, e2, h2⟩ := m_on hW hNm hm2 hv.1 hgm g4 h47 hm.2.1.1 hm.2.1.2
    by_cases o : onO (wOf p) A.T
    · obtain ⟨-, a1, a2, a3, a4⟩ := h1.resolve_right (fun z => z.1 o)
      obtain ⟨-, b1, b2, b3⟩ := h2.resolve_right (fun z => z.1 o)
      have a1 : s1 = true := a1
      have b1 : t1 = true := b1
      subst a1 b1
      have c0 := CS_act (A := aTU A (T0 A.T 0)) hp (CS_T hc (x := 0) (Nat.zero_le _)) a4 a2 a3
      have m0 := MS_act (A := aTU A (T0 A.T 0)) hp (MS_T hm (x := 0) (Nat.zero_le _)) b3 b2
      refine ⟨true, s2, t2, _, e1, e2, c0, m0, ?_⟩
      obtain ⟨p1, p2, p3, p4, p5, p6, p7⟩ := AV_T (AV_s hv) (x := 0) (Nat.zero_le _)
      have hlt := rowT_lt (W := wOf p) (T := A.T) (by omega) o.1.2.2.2
      have hwN : rowT (wOf p) A.T (wOf p).g < (wOf p).N := by rw [hNm]; exact hlt
      obtain ⟨hb1, hb2, hb3⟩ := nbt_le hW
      refine ⟨p1, ?_, trivial, Nat.zero_le _, Nat.zero_le _, p6, p7⟩
      show AV0 A.p (onG (wOf p) A.T) []
      rw [hp]
      refine ⟨⟨T', k, ho⟩, ⟨rl_mem.mpr ⟨hwN, ?_⟩, fun r hr => ?_, o.1.2.2.1⟩, fun G hG => by cases hG⟩
      · show onL (wOf p) A.T (rowT (wOf p) A.T (wOf p).g) = true
        rw [onL_lt hwN]
        exact o.2.2
      · have hr : onL (wOf p) A.T r = true := hr
        unfold onL at hr
        rw [Bool.and_eq_true, decide_eq_true_iff] at hr
        have hb4 : (wOf p).N ≤ 8 * nbt (wOf p) := hb3
        exact o.2.1 r (by omega) hr.2
    · obtain ⟨-, a1⟩ := h1.resolve_left (fun z => o z.1)
      obtain ⟨-, b1⟩ := h2.resolve_left (fun z => o z.1)
      exact bad (e1.trans (by rw [a1])) (e2.trans (by rw [b1]))
end
