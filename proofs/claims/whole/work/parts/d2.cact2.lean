/-! ACTIONS, the class: a round, what a guest says, what is told -/
section
variable {W : gW} {G : gG} {S : List gG} {σ : fhM}
def gSay (W : gW) (G : gG) (i : Nat) : gG := (G.rd, G.w, kpt (alk (kb W (rl W.N G.L)) (2 ^ i) G.w) G.L, G.H ++ [(1, i, (if one (msk W (rl W.N G.L) i (W.vw G.w i)) = true then 1 else 0), (rl W.N (kpt (alk (kb W (rl W.N G.L)) (2 ^ i) G.w) G.L)).length)])
def gTel (W : gW) (G : gG) (k : Nat) : gG := (G.rd, G.w, kpt (alk W.tr (2 ^ k) G.w) G.L, G.H ++ [(2, k, (if (W.tr G.w).testBit k = true then 1 else 0), (rl W.N (kpt (alk W.tr (2 ^ k) G.w) G.L)).length)])
/-- a round in which all but those outside the mask show whether they know -/
def gRnd (W : gW) (G : gG) (mk : Nat) : gG := (G.rd + 1, G.w, kpt (alk (kb W (rl W.N G.L)) mk G.w) G.L, G.H ++ [(0, 0, kb W (rl W.N G.L) G.w &&& mk, (rl W.N (kpt (alk (kb W (rl W.N G.L)) mk G.w) G.L)).length)])
theorem psh_ne {G : gG} {S : List gG} : psh G S ≠ [] := fun h => by cases h
theorem psh_len {G : gG} {S : List gG} : (psh G S).length ≤ 20 := by
  unfold psh
  rw [List.length_cons, List.length_take]
  omega
theorem c_says (hW : wOK W) (hg : cGm W G S σ) (hc : chn G.H S) (hw : G.w ∈ rl W.N G.L) (hH : G.H.length < 2 ^ 30) {i : Nat} (hi : i < W.g) : wq (f_X11_says (nI i) σ) (fun r => r.1 = bI (one (msk W (rl W.N G.L) i (W.vw G.w i))) ∧ cGm W (gSay W G i) (psh G S) r.2 ∧ fpl aDc σ r.2 ∧ r.2.1 57 3 = 0) := by
  have hg5 := hW.1
  have hp : 2 ^ i ≤ 2 ^ 5 := Nat.pow_le_pow_right (by decide) (by omega)
  unfold f_X11_says fhlet
  rw [if_pos (by rw [c_isG _ (by omega) hg.1.2.1, inB_n (by omega)]; exact hi), wq_bind]
  refine wq_mono (c_saved hW hg hc) (fun s z => ?_)
  obtain ⟨⟨h1, h2, h3, h4, h5⟩, hf⟩ := z
  rw [ph_shl1 (by omega), wq_bind]
  refine wq_mono (c_keepAlike (tb := 74) (T := kb W (rl W.N G.L)) hW (tbF_rw h1) h2 h3 hw rfl (fun r hr => ⟨h3.2.2.2.2 r hr, by have := kb_lt hW (rl W.N G.L) r; omega⟩) (by omega) (by decide) (by decide)) (fun s2 z => ?_)
  obtain ⟨k1, k57, kf⟩ := z
  have kf2 := gD4_a kf
  have e93 : ∀ a j, ¬ gD4 a → s2.1 a j = s.1 a j := fun a j ha => (kf.1 a j ha).1
  rw [c_isKn hW h3 hw hi, k1.1, wq_some]
  have hrg : rngF (bas G.H (psh G S)) G.H s2 := ⟨by rw [e93 _ _ (by unfold gD4; omega)]; exact h4.1, fun k e hk hb => by
    rw [e93 _ _ (by unfold gD4; omega), e93 _ _ (by unfold gD4; omega), e93 _ _ (by unfold gD4; omega), e93 _ _ (by unfold gD4; omega)]
    exact h4.2 k e hk hb⟩
  have hst : ∃ p, stkF W.N (psh G S) p s2 := by
    obtain ⟨p, s3, hp, s4, hl2, hs⟩ := h5
    exact ⟨p, by rw [e93 _ _ (by unfold gD4; omega)]; exact s3, hp, by rw [e93 _ _ (by unfold gD4; omega)]; exact s4, hl2, fun k G2 hk => by
      rw [show s2.1 97 = s.1 97 from funext (fun j => e93 _ _ (by unfold gD4; omega))]
      exact hs k G2 hk⟩
  have nt := c_noted (G := G) (S := psh G S) hW (tbF_a h1 kf2) (psF_a h2 kf2) k1 hrg hst (psh_chn hc) psh_len psh_ne hH (1, i, (if one (msk W (rl W.N G.L) i (W.vw G.w i)) = true then 1 else 0), (rl W.N (kpt (alk (kb W (rl W.N G.L)) (2 ^ i) G.w) G.L)).length)
  exact ⟨rfl, nt.1, fpl_tr2 hf (fpl_tr2 kf2 nt.2.1), nt.2.2.trans k57⟩
theorem c_tell (hW : wOK W) (hg : cGm W G S σ) (hc : chn G.H S) (hw : G.w ∈ rl W.N G.L) (hLa : ∀ r, G.L r = true → W.al r = true) (hH : G.H.length < 2 ^ 30) {i : Nat} (hi : i < W.F) : wq (f_X11_tell (nI i) σ) (fun r => r.1 = bI ((W.tr G.w).testBit i) ∧ cGm W (gTel W G i) (psh G S) r.2 ∧ fpl aDc σ r.2 ∧ r.2.1 57 3 = 0) := by
  have hg5 := hW.1
  have hF := hW.2.2.1
  have h256 := pF hW
  have hp : 2 ^ i ≤ 2 ^ 8 := Nat.pow_le_pow_right (by decide) (by omega)
  have hwN := rl_lt _ hw
  unfold f_X11_tell fhlet
  rw [if_pos (by rw [c_isFt _ (by omega) hg.1.2.2.1, inB_n (by omega)]; exact hi), wq_bind]
  refine wq_mono (c_saved hW hg hc) (fun s z => ?_)
  obtain ⟨⟨h1, h2, h3, h4, h5⟩, hf⟩ := z
  have htr := h1.2.2.2.2.2.2.2.2.2.2.1
  have ho : f_X11_one (fhb (f_X9_holdsIn (s.1 56 9) (nI i) s)) s = bI ((W.tr G.w).testBit i) := by
    rw [h3.2.1, c_hin hW htr hwN (hLa _ (rl_mem.mp hw).2) hi]
    unfold f_X11_one
    cases (W.tr G.w).testBit i <;> (repeat (first | rw [if_pos (by decide)] | rw [if_neg (by decide)])) <;> rfl
  rw [ho]
  dsimp only
  rw [ph_shl1 (by omega), wq_bind]
  refine wq_mono (c_keepAlike (tb := 52) (T := W.tr) hW (tbF_rw h1) h2 h3 hw rfl (fun r hr => ⟨htr r (rl_lt _ hr) (hLa _ (rl_mem.mp hr).2), by have := hW.2.2.2.2.2.2.2.1 r; omega⟩) (by omega) (by decide) (by decide)) (fun s2 z => ?_)
  obtain ⟨k1, k57, kf⟩ := z
  have kf2 := gD4_a kf
  have e93 : ∀ a j, ¬ gD4 a → s2.1 a j = s.1 a j := fun a j ha => (kf.1 a j ha).1
  rw [k1.1, wq_some]
  have hrg : rngF (bas G.H (psh G S)) G.H s2 := ⟨by rw [e93 _ _ (by unfold gD4; omega)]; exact h4.1, fun k e hk hb => by
    rw [e93 _ _ (by unfold gD4; omega), e93 _ _ (by unfold gD4; omega), e93 _ _ (by unfold gD4; omega), e93 _ _ (by unfold gD4; omega)]
    exact h4.2 k e hk hb⟩
  have hst : ∃ p, stkF W.N (psh G S) p s2 := by
    obtain ⟨p, s3, hp, s4, hl2, hs⟩ := h5
    exact ⟨p, by rw [e93 _ _ (by unfold gD4; omega)]; exact s3, hp, by rw [e93 _ _ (by unfold gD4; omega)]; exact s4, hl2, fun k G2 hk => by
      rw [show s2.1 97 = s.1 97 from funext (fun j => e93 _ _ (by unfold gD4; omega))]
      exact hs k G2 hk⟩
  have nt := c_noted (G := G) (S := psh G S) hW (tbF_a h1 kf2) (psF_a h2 kf2) k1 hrg hst (psh_chn hc) psh_len psh_ne hH (2, i, (if (W.tr G.w).testBit i = true then 1 else 0), (rl W.N (kpt (alk W.tr (2 ^ i) G.w) G.L)).length)
  exact ⟨rfl, nt.1, fpl_tr2 hf (fpl_tr2 kf2 nt.2.1), nt.2.2.trans k57⟩
/-- a round, the saving done -/
theorem c_play28 (hW : wOK W) (hg : cGm W G S σ) (hc : chn G.H S) (hS : S.length ≤ 20) (hne : S ≠ []) (hw : G.w ∈ rl W.N G.L) (hH : G.H.length < 2 ^ 30) {mk : Nat} (hm : mk < 1024) : wq (f_X11_playRound_28 (nI mk) σ) (fun r => r.1 = nI (kb W (rl W.N G.L) G.w &&& mk) ∧ cGm W (gRnd W G mk) S r.2 ∧ fpl aDc σ r.2 ∧ r.2.1 57 3 = 0) := by
  obtain ⟨h1, h2, h3, h4, h5⟩ := hg
  unfold f_X11_playRound_28 fhlet
  rw [wq_bind]
  refine wq_mono (c_keepAlike (tb := 74) (T := kb W (rl W.N G.L)) hW (tbF_rw h1) h2 h3 hw rfl (fun r hr => ⟨h3.2.2.2.2 r hr, by have := kb_lt hW (rl W.N G.L) r; omega⟩) hm (by decide) (by decide)) (fun s2 z => ?_)
  obtain ⟨k1, k57, kf⟩ := z
  have kf2 := gD4_a kf
  have e93 : ∀ a j, ¬ gD4 a → s2.1 a j = σ.1 a j := fun a j ha => (kf.1 a j ha).1
  have k1' := k1
  obtain ⟨g1, g2, g3, g4, g5⟩ := k1'
  have kf3 : fpl aDc σ (fhI s2 56 10 (nI (G.rd + 1))) := fpl_I kf2 (Or.inr (Or.inr (Or.inr (Or.inl rfl))))
  have k2 : gmF W (kpt (alk (kb W (rl W.N G.L)) mk G.w) G.L) G.w (G.rd + 1) (fhI s2 56 10 (nI (G.rd + 1))) := ⟨by rw [fhI_s (by decide)]; exact g1, by rw [fhI_s (by decide)]; exact g2, fhI_e, fun k hk => by rw [fhI_o (by decide)]; exact g4 k hk, fun r hr => by rw [fhI_o (by decide)]; exact g5 r hr⟩
  have hrg : rngF (bas G.H S) G.H (fhI s2 56 10 (nI (G.rd + 1))) := ⟨by rw [fhI_o (by decide), e93 _ _ (by unfold gD4; omega)]; exact h4.1, fun k e hk hb => by
    rw [fhI_o (by decide), fhI_o (by decide), fhI_o (by decide), fhI_o (by decide), e93 _ _ (by unfold gD4; omega), e93 _ _ (by unfold gD4; omega), e93 _ _ (by unfold gD4; omega), e93 _ _ (by unfold gD4; omega)]
    exact h4.2 k e hk hb⟩
  have hst : ∃ p, stkF W.N S p (fhI s2 56 10 (nI (G.rd + 1))) := by
    obtain ⟨p, s3, hp, s4, hl2, hs⟩ := h5
    exact ⟨p, by rw [fhI_o (by decide), e93 _ _ (by unfold gD4; omega)]; exact s3, hp, by rw [fhI_o (by decide), e93 _ _ (by unfold gD4; omega)]; exact s4, hl2, fun k G2 hk => by
      rw [show (fhI s2 56 10 (nI (G.rd + 1))).1 97 = σ.1 97 from funext (fun j => by rw [fhI_o (by decide), e93 _ _ (by unfold gD4; omega)])]
      exact hs k G2 hk⟩
  have nt := c_noted (G := G) (S := S) hW (tbF_a h1 kf3) (psF_a h2 kf3) k2 hrg hst hc hS hne hH (0, 0, kb W (rl W.N G.L) G.w &&& mk, (rl W.N (kpt (alk (kb W (rl W.N G.L)) mk G.w) G.L)).length)
  rw [c_knowers hW h3 hw, ph_and, g1, g3, nI_1, wq_some]
  exact ⟨rfl, nt.1, fpl_tr2 kf3 nt.2.1, nt.2.2.trans (by rw [fhI_o (by decide)]; exact k57)⟩
end
