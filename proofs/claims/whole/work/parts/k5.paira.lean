/-! THE PAIRS: dealt anew, rounds by chance -/
theorem n2_ltP (v : Int32) {c : Nat} (hc : c < 2 ^ 31) : (nI c < v) = ((c : Int) < v.toInt) := propext (by rw [Int32.lt_iff_toInt_lt, nI_toInt hc])
theorem nI_nle2 {a b : Nat} (ha : a < 2 ^ 31) (h : b < a) : ¬ nI a ≤ nI b := by
  rw [le_n2P _ (by omega), nI_toInt ha]
  omega
section
variable {n : Nat} {A : aS} {σ τ : fhM}
theorem CS_actx {p : fhPS} (hp : A.p = some p) {G2 : gG} {S2 : List gG} {d : Nat} {s : fhM} (h : CS A σ) (hf : fpx σ s) (hg : cGm (wOf p) G2 S2 s) (h16 : s.1 0 16 = nI d) (h57 : s.1 57 3 = 0) : CS (adU (aGU A G2 S2) d) s := by
  obtain ⟨h0, ⟨a1, a2⟩, ⟨b1, b2⟩, c, ⟨d1, d2⟩, e1, f1, f2⟩ := h
  have e : ∀ t j, ¬ aDc t → ¬ (t = 0 ∧ j = 16) → s.1 t j = σ.1 t j := fun t j x y => (hf.1 t j x y).1
  refine ⟨?_, ⟨by rw [e _ _ (by unfold aDc gD4; omega) (by decide)]; exact a1, fun j hj => by rw [e _ _ (by unfold aDc gD4; omega) (by omega)]; exact a2 j hj⟩, ⟨by rw [e _ _ (by unfold aDc gD4; omega) (by decide)]; exact b1, fun k hk => by rw [e _ _ (by unfold aDc gD4; omega) (by omega)]; exact b2 k hk⟩, fun k hk => by rw [e _ _ (by unfold aDc gD4; omega) (by omega)]; exact c k hk, ⟨by rw [e _ _ (by unfold aDc gD4; omega) (by decide)]; exact d1, by rw [e _ _ (by unfold aDc gD4; omega) (by decide)]; exact d2⟩, h16, by rw [e _ _ (by unfold aDc gD4; omega) (by decide)]; exact f1, fun j hj => by rw [e _ _ (by unfold aDc gD4; omega) (by omega)]; exact f2 j hj⟩
  show CS0 A.p G2 S2 s
  rw [hp] at h0 ⊢
  exact CS0_act h0 (fun t j z y => e t j z (by omega)) (e 0 8 (by unfold aDc gD4; omega) (by decide)) (fun t j z => (hf.1 t j (by unfold aDc gD4; omega) (by omega)).2) hg h57
theorem MS_actx {p : fhPS} (hp : A.p = some p) {G2 : gG} {S2 : List gG} {d : Nat} {s : fhM} (h : MS A τ) (hf : fry τ s) (hg : mGm (wOf p) G2 S2 s) (h73 : s.2.1 0 73 = lN d) : MS (adU (aGU A G2 S2) d) s := by
  obtain ⟨h0, ⟨a1, a2⟩, ⟨b1, b2⟩, c, ⟨d1, d2⟩, e1, f1, f2⟩ := h
  have e : ∀ t j, ¬ aDm t j → s.1 t j = τ.1 t j := hf.1
  refine ⟨?_, ⟨by rw [e _ _ (by unfold aDm; omega)]; exact a1, fun j hj => by rw [e _ _ (by unfold aDm; omega)]; exact a2 j hj⟩, ⟨by rw [e _ _ (by unfold aDm; omega)]; exact b1, fun k hk => by rw [e _ _ (by unfold aDm; omega)]; exact b2 k hk⟩, fun k hk => by rw [e _ _ (by unfold aDm; omega)]; exact c k hk, ⟨by rw [e _ _ (by unfold aDm; omega)]; exact d1, by rw [e _ _ (by unfold aDm; omega)]; exact d2⟩, h73, by rw [e _ _ (by unfold aDm; omega)]; exact f1, fun j hj => by rw [e _ _ (by unfold aDm; omega)]; exact f2 j hj⟩
  show MS0 A.p G2 S2 s
  rw [hp] at h0 ⊢
  exact MS0_act h0 (fun t j z _ => e t j z) (fun j => hf.2.1 30 j (by omega)) hg
theorem AV_d {d : Nat} (hv : AV n A) (hd : d < 2147483648) : AV n (adU A d) := ⟨hv.1, hv.2.1, hv.2.2.1, hv.2.2.2.1, hv.2.2.2.2.1, hv.2.2.2.2.2.1, hd, hv.2.2.2.2.2.2.2⟩
theorem p_deal (hc : CS A σ) (hm : MS A τ) (hv : AV n A) : okQ n (f_X11_deal σ) (f_X12_deal τ) := by
  have hW := aW_ok hv
  rcases told hc hm with ⟨-, h8, h47⟩ | ⟨p, hp, h8, h47⟩
  · refine okQ_r hc hm hv (k := 3) (v := (-1 : Int32)) (by decide) ?_ ?_
    · unfold f_X11_deal fhlet
      rw [if_pos h8, show (3 : Int32) = nI 3 from rfl, c_refuse (by decide)]
    · unfold f_X12_deal
      rw [if_pos h47, show (3 : Int32) = nI 3 from rfl, m_refuses (by decide)]
      rfl
  · have hal : 0 < (rl (aW A.p).N (aW A.p).al).length := List.length_pos_iff.mpr ((al_ne hv).2 p hp)
    have ea : aW A.p = wOf p := by rw [hp]; rfl
    have hd : A.d < 2147483648 := hv.2.2.2.2.2.2.1
    have e1 := c_deal hW hc.1.2.2.1 hv.2.2.1 hal h8 hc.2.2.2.2.2.1
    have e2 := m_deal hW hm.1.2.2.1 hal h47 hd hm.2.2.2.2.2.1
    have hr : dlt (aW A.p) A.d ∈ rl (aW A.p).N (aW A.p).al := by
      unfold dlt
      exact getD_mem (Nat.mod_lt _ hal)
    rw [ea] at e1 e2 hr
    exact okQ_w (P := fun _ => True) (Q := fun _ => True) (wq_mono e1 (fun r h => ⟨h.1, CS_actx hp hc h.2.2.2.1 h.2.1 h.2.2.1 h.2.2.2.2⟩)) (wq_mono e2 (fun r h => ⟨h.1, MS_actx hp hm ⟨h.2.2.1, fun t j z => by rw [h.2.2.2, fhJ_r, if_neg z], by rw [h.2.2.2]; rfl⟩ h.2.1 (by rw [h.2.2.2, fhJ_e])⟩)) (AV_d (AV_psh hp hv ⟨hr, fun r h => h, Nat.zero_le _⟩ ⟨[], (List.append_nil _).symm, Nat.zero_le _⟩) (nx_lt _))
theorem p_chance (hn : n ≤ 1000) (hc : CS A σ) (hm : MS A τ) (hv : AV n A) (v : Int32) : okQ n (f_X11_chance v σ) (f_X12_chance v τ) := by
  have hW := aW_ok hv
  have hH := hv.2.2.2.2.1
  have bad : f_X11_chance v σ = f_X11_chance_33 σ → f_X12_chance v τ = f_X12_chance_33 τ → okQ n (f_X11_chance v σ) (f_X12_chance v τ) := fun h1 h2 => by
    rw [h1, h2]
    refine okQ_r hc hm hv (k := 3) (v := (-1 : Int32)) (by decide) ?_ ?_
    · unfold f_X11_chance_33 fhlet
      rw [show (3 : Int32) = nI 3 from rfl, c_refuse (by decide)]
    · unfold f_X12_chance_33
      rw [show (3 : Int32) = nI 3 from rfl, m_refuses (by decide)]
      rfl
  rcases told hc hm with ⟨-, h8, h47⟩ | ⟨p, hp, h8, h47⟩
  · exact bad (by unfold f_X11_chance; rw [if_pos h8]) (by unfold f_X12_chance; rw [if_pos h47])
  · obtain ⟨hgv, T', k', ho⟩ := gV_A hp hv
    obtain ⟨g1, g2, g3, g4, g5⟩ := AV_G hv
    have hw := AV_w hv hp
    have ea : aW A.p = wOf p := by rw [hp]; rfl
    have hd : A.d < 2147483648 := hv.2.2.2.2.2.2.1
    have hin : (f_X12_isIn v.toInt64 (1 : Int64) (20 : Int64) τ = true) = (1 ≤ v.toInt ∧ v.toInt ≤ 20) := m_inI v (lo := 1) (hi := 20) (by decide) (by decide) (by decide) (by decide) τ
    by_cases c : 1 ≤ v.toInt ∧ v.toInt ≤ 20
    · obtain ⟨ev, hi⟩ := inB_e (v := v) (c := 21) ⟨by omega, by omega⟩
      have hv1 : 1 ≤ v.toInt.toNat := by omega
      have hsum : A.G.rd + v.toInt.toNat < 2 ^ 31 := by omega
      by_cases d : A.G.rd + v.toInt.toNat ≤ 999
      · have hP := (swp_P hc.1.1).1
        have hsl := hc.1.2.1
        have hsm := hm.1.2.1
        rw [hp] at hsl hsm
        obtain ⟨-, out, hr⟩ := hsl
        have e1 := c_chance hW hc.1.2.2.1 hv.2.2.1 hw (by omega) hP hr.2.2.2.2.2.1 ho.2.2.2.2.2.2.2.2.2.1 hc.2.2.2.2.2.1 h8 hv1 (by omega) d
        have e2 := m_chance hW hm.1.2.2.1 hw g4 hsm.2.2.1 ho.2.2.2.2.2.2.2.2.2.1 hd hm.2.2.2.2.2.1 h47 hv1 (by omega) d
        obtain ⟨⟨i1, i2, ⟨t, i3, i4⟩, i5, i6⟩, -⟩ := chs_I (W := aW A.p) (sl := p.sl) (x := (0, A.d, A.G)) hw v.toInt.toNat
        have hnx : (chs (aW A.p) p.sl (0, A.d, A.G) v.toInt.toNat).2.1 < 2147483648 := by
          obtain ⟨k, hk⟩ : ∃ k, v.toInt.toNat = k + 1 := ⟨v.toInt.toNat - 1, by omega⟩
          rw [hk]
          obtain ⟨mk, -, -, h⟩ := cs1_g (aW A.p) p.sl (chs (aW A.p) p.sl (0, A.d, A.G) k)
          exact h
        have hg2 : gV (aW A.p) (chs (aW A.p) p.sl (0, A.d, A.G) v.toInt.toNat).2.2 := ⟨i5, fun r hr => g3 r (i6 r hr), by rw [i1]; exact d⟩
        rw [← ev] at e1 e2
        rw [ea] at e1 e2 hg2 hnx i3
        exact okQ_w (P := fun _ => True) (Q := fun _ => True) (wq_mono e1 (fun r h => ⟨h.1, CS_actx hp hc h.2.2.2.1 h.2.1 h.2.2.1 h.2.2.2.2⟩)) (wq_mono e2 (fun r h => ⟨h.1, MS_actx hp hm h.2.2.2 h.2.1 h.2.2.1⟩)) (AV_d (AV_psh hp hv hg2 ⟨t, i3, by omega⟩) hnx)
      · have hrd : nI A.G.rd + nI v.toInt.toNat = nI (A.G.rd + v.toInt.toNat) := by
          rw [nI_add]
        rw [← ev] at hrd
        refine bad ?_ ?_
        · unfold f_X11_chance
          rw [if_neg h8, if_neg (by rw [show (1 : Int32) = nI 1 from rfl, lt_nP v (by decide)]; omega), if_neg (by rw [show (20 : Int32) = nI 20 from rfl, n2_ltP v (by decide)]; omega), hc.1.2.2.1.2.2.1.2.2.1, hrd, if_neg (by rw [show (999 : Int32) = nI 999 from rfl]; exact nI_nle2 (by omega) (by omega))]
        · unfold f_X12_chance
          rw [if_neg h47, if_pos (by rw [hin]; exact c), hm.1.2.2.1.2.1.1, hrd, if_neg (by rw [show (999 : Int32) = nI 999 from rfl]; exact nI_nle2 (by omega) (by omega))]
    · refine bad ?_ ?_
      · unfold f_X11_chance
        rw [if_neg h8]
        by_cases d : v.toInt < 1
        · rw [if_pos (by rw [show (1 : Int32) = nI 1 from rfl, lt_nP v (by decide)]; exact d)]
        · rw [if_neg (by rw [show (1 : Int32) = nI 1 from rfl, lt_nP v (by decide)]; exact d), if_pos (by rw [show (20 : Int32) = nI 20 from rfl, n2_ltP v (by decide)]; omega)]
      · unfold f_X12_chance
        rw [if_neg h47, if_neg (by rw [hin]; exact c)]
end
