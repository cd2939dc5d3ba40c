/-! THE PAIRS: refusals, seed, end, hear, image -/
def aqU (A : aS) (k : Nat) : aS := (A.T, A.p, A.G, A.S, A.H, (fun j => if j = k then A.q j + 1 else A.q j), A.f, A.d, A.i)
def aTU (A : aS) (T : tT) : aS := (T, A.p, A.G, A.S, A.H, A.q, A.f, A.d, A.i)
def aHU (A : aS) (H : tT) : aS := (A.T, A.p, A.G, A.S, H, A.q, A.f, A.d, A.i)
def adU (A : aS) (d : Nat) : aS := (A.T, A.p, A.G, A.S, A.H, A.q, A.f, d, A.i)
def aiU (A : aS) (i : Nat × (Nat → Nat)) : aS := (A.T, A.p, A.G, A.S, A.H, A.q, A.f, A.d, i)
def T0 (T : tT) (x : Nat) : tT := (T.1, x)
section
variable {n : Nat} {A : aS} {σ τ : fhM}
theorem CS_r (h : CS A σ) {k : Nat} (hk : k < 6) : CS (aqU A k) (fhI σ 101 k (σ.1 101 k + 1)) := by
  have e : ∀ t j, t ≠ 101 → (fhI σ 101 k (σ.1 101 k + 1)).1 t j = σ.1 t j := fun t j z => fhI_o z
  refine ⟨CS0_k h.1 (fun t j z => e t j (by unfold kpC at z; omega)) (fun t j z => rfl), ?_⟩
  obtain ⟨⟨a1, a2⟩, ⟨b1, b2⟩, c, ⟨d1, d2⟩, e1, f1, f2⟩ := h.2
  refine ⟨⟨by rw [e _ _ (by decide)]; exact a1, fun j hj => by rw [e _ _ (by decide)]; exact a2 j hj⟩, ⟨by rw [e _ _ (by decide)]; exact b1, fun k hk => by rw [e _ _ (by decide)]; exact b2 k hk⟩, fun j hj => ?_, ⟨by rw [e _ _ (by decide)]; exact d1, by rw [e _ _ (by decide)]; exact d2⟩, by rw [e _ _ (by decide)]; exact e1, by rw [e _ _ (by decide)]; exact f1, fun j hj => by rw [e _ _ (by decide)]; exact f2 j hj⟩
  show _ = if j = k then A.q j + 1 else A.q j
  by_cases y : j = k
  · rw [if_pos y, y, fhI_e, c k hk]
  · rw [if_neg y, fhI_s y]
    exact c j hj
theorem MS_r (h : MS A τ) {k : Nat} (hk : k < 6) : MS (aqU A k) (fhI τ 2 k (τ.1 2 k + 1)) := by
  have e : ∀ t j, t ≠ 2 → (fhI τ 2 k (τ.1 2 k + 1)).1 t j = τ.1 t j := fun t j z => fhI_o z
  refine ⟨MS0_k h.1 (fun t j z => e t j (by unfold kpQ kpW at z; omega)) (fun _ => rfl), ?_⟩
  obtain ⟨⟨a1, a2⟩, ⟨b1, b2⟩, c, ⟨d1, d2⟩, e1, f1, f2⟩ := h.2
  refine ⟨⟨by rw [e _ _ (by decide)]; exact a1, fun j hj => by rw [e _ _ (by decide)]; exact a2 j hj⟩, ⟨by rw [e _ _ (by decide)]; exact b1, fun k hk => by rw [e _ _ (by decide)]; exact b2 k hk⟩, fun j hj => ?_, ⟨by rw [e _ _ (by decide)]; exact d1, by rw [e _ _ (by decide)]; exact d2⟩, e1, by rw [e _ _ (by decide)]; exact f1, fun j hj => by rw [e _ _ (by decide)]; exact f2 j hj⟩
  show _ = if j = k then A.q j + 1 else A.q j
  by_cases y : j = k
  · rw [if_pos y, y, fhI_e, c k hk]
  · rw [if_neg y, fhI_s y]
    exact c j hj
/-- refused on both sides -/
theorem okQ_r {α : Type} (hc : CS A σ) (hm : MS A τ) (hv : AV n A) {k : Nat} (hk : k < 6) {v : α} {oF oM : Option (α × fhM)} (h1 : oF = some (v, fhI σ 101 k (σ.1 101 k + 1))) (h2 : oM = some (v, fhI τ 2 k (τ.1 2 k + 1))) : okQ n oF oM := ⟨v, _, _, aqU A k, h1, h2, CS_r hc hk, MS_r hm hk, AV_s hv⟩
theorem CS_T (h : CS A σ) {x : Nat} (hx : x ≤ A.T.2) : CS (aTU A (T0 A.T x)) (fhI σ 0 1 (nI x)) := by
  refine ⟨CS0_k h.1 (fun t j z => by rw [fhI_r, if_neg (by unfold kpC at z; omega)]) (fun t j z => rfl), ?_⟩
  obtain ⟨⟨a1, a2⟩, ⟨b1, b2⟩, c, ⟨d1, d2⟩, e1, f1, f2⟩ := h.2
  exact ⟨⟨fhI_e, fun j hj => by rw [fhI_o (by decide)]; exact a2 j (Nat.lt_of_lt_of_le hj hx)⟩, ⟨by rw [fhI_o (by decide)]; exact b1, fun k hk => by rw [fhI_o (by decide)]; exact b2 k hk⟩, fun j hj => by rw [fhI_o (by decide)]; exact c j hj, ⟨by rw [fhI_s (by decide)]; exact d1, by rw [fhI_s (by decide)]; exact d2⟩, by rw [fhI_s (by decide)]; exact e1, by rw [fhI_s (by decide)]; exact f1, fun j hj => by rw [fhI_o (by decide)]; exact f2 j hj⟩
theorem MS_T (h : MS A τ) {x : Nat} (hx : x ≤ A.T.2) : MS (aTU A (T0 A.T x)) (fhI τ 0 1 (nI x)) := by
  refine ⟨MS0_k h.1 (fun t j z => by rw [fhI_r, if_neg (by unfold kpQ kpW at z; omega)]) (fun _ => rfl), ?_⟩
  obtain ⟨⟨a1, a2⟩, ⟨b1, b2⟩, c, ⟨d1, d2⟩, e1, f1, f2⟩ := h.2
  exact ⟨⟨fhI_e, fun j hj => by rw [fhI_o (by decide)]; exact a2 j (Nat.lt_of_lt_of_le hj hx)⟩, ⟨by rw [fhI_s (by decide)]; exact b1, fun k hk => by rw [fhI_o (by decide)]; exact b2 k hk⟩, fun j hj => by rw [fhI_o (by decide)]; exact c j hj, ⟨by rw [fhI_s (by decide)]; exact d1, by rw [fhI_s (by decide)]; exact d2⟩, e1, by rw [fhI_s (by decide)]; exact f1, fun j hj => by rw [fhI_o (by decide)]; exact f2 j hj⟩
theorem AV_T (h : AV n A) {x : Nat} (hx : x ≤ A.T.2) : AV n (aTU A (T0 A.T x)) := ⟨⟨Nat.le_trans hx h.1.1, h.1.2⟩, h.2⟩
theorem p_seed (hc : CS A σ) (hm : MS A τ) (hv : AV n A) (v : Int32) : okQ n (some (f_X11_seed v σ)) (f_X12_seed v τ) := by
  by_cases h : 0 ≤ v.toInt
  · rw [c_seed h, m_seed h]
    have hb := (nonneg_n h).2
    refine ⟨true, _, _, adU A v.toInt.toNat, rfl, rfl, ⟨CS0_k hc.1 (fun t j z => by rw [fhI_r, if_neg (by unfold kpC at z; omega)]) (fun t j z => rfl), ?_⟩, ⟨MS0_k hm.1 (fun t j z => rfl) (fun j => ?_), ?_⟩, ?_⟩
    · obtain ⟨⟨a1, a2⟩, ⟨b1, b2⟩, c, ⟨d1, d2⟩, e1, f1, f2⟩ := hc.2
      exact ⟨⟨by rw [fhI_s (by decide)]; exact a1, fun j hj => by rw [fhI_o (by decide)]; exact a2 j hj⟩, ⟨by rw [fhI_o (by decide)]; exact b1, fun k hk => by rw [fhI_o (by decide)]; exact b2 k hk⟩, fun j hj => by rw [fhI_o (by decide)]; exact c j hj, ⟨by rw [fhI_s (by decide)]; exact d1, by rw [fhI_s (by decide)]; exact d2⟩, fhI_e, by rw [fhI_s (by decide)]; exact f1, fun j hj => by rw [fhI_o (by decide)]; exact f2 j hj⟩
    · rw [fhJ_r, if_neg (by omega)]
    · obtain ⟨a, b, c, d, e1, f⟩ := hm.2
      exact ⟨a, b, c, d, fhJ_e, f⟩
    · obtain ⟨a1, a2, a3, a4, a5, a6, a7, a8⟩ := AV_s hv
      exact ⟨a1, a2, a3, a4, a5, a6, by show v.toInt.toNat < 2147483648; omega, a8⟩
  · refine okQ_r hc hm hv (k := 5) (v := false) (by decide) ?_ ?_
    · unfold f_X11_seed fhlet
      rw [if_neg (by rw [le0_P]; exact h), show (5 : Int32) = nI 5 from rfl, c_refuse (by decide)]
    · unfold f_X12_seed
      rw [if_neg (by rw [le0_P]; exact h), show (5 : Int32) = nI 5 from rfl, m_refused (by decide)]
      rfl
theorem p_end (hc : CS A σ) (hm : MS A τ) (hv : AV n A) (v : Int32) : okQ n (some (f_X11_end v σ)) (some (f_X12_end v τ)) := by
  have hT1 := hv.1.1
  have no : f_X11_end v σ = f_X11_end_12 σ → f_X12_end v τ = f_X12_end_12 τ → okQ n (some (f_X11_end v σ)) (some (f_X12_end v τ)) := fun h1 h2 => by
    rw [h1, h2]
    refine okQ_r hc hm hv (k := 0) (v := false) (by decide) ?_ rfl
    unfold f_X11_end_12 fhlet
    rw [show (0 : Int32) = nI 0 from rfl, c_refuse (by decide)]
  by_cases d : v < 0
  · refine no ?_ ?_
    · unfold f_X11_end
      rw [if_pos d]
    · unfold f_X12_end
      rw [if_pos d]
  · by_cases e : v ≤ nI A.T.2
    · rw [lt0_P] at d
      have e0 := e
      rw [le_n2P v (by omega)] at e
      obtain ⟨ev, hl⟩ := inB_e (v := v) (c := A.T.2 + 1) ⟨by omega, by omega⟩
      have h1 : f_X11_end v σ = (true, fhI σ 0 1 (nI v.toInt.toNat)) := by
        unfold f_X11_end
        rw [hc.2.1.1, if_neg (by rw [lt0_P]; exact d), if_pos e0, ← ev]
      have h2 : f_X12_end v τ = (true, fhI τ 0 1 (nI v.toInt.toNat)) := by
        unfold f_X12_end
        rw [hm.2.1.1, if_neg (by rw [lt0_P]; exact d), if_pos e0, ← ev]
      rw [h1, h2]
      exact ⟨true, _, _, aTU A (T0 A.T v.toInt.toNat), rfl, rfl, CS_T hc (by omega), MS_T hm (by omega), AV_T (AV_s hv) (by omega)⟩
    · refine no ?_ ?_
      · unfold f_X11_end
        rw [if_neg d, hc.2.1.1, if_neg e]
      · unfold f_X12_end
        rw [if_neg d, hm.2.1.1, if_neg e]
end
