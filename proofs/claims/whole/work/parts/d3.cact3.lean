/-! ACTIONS, the class: a round asked for, taken back -/
def mkR (W : gW) (o : Option Nat) : Nat := match o with
  | none => 2 ^ W.g - 1
  | some i => (2 ^ W.g - 1) &&& (31 ^^^ 2 ^ i)
theorem mkR_lt {W : gW} (hW : wOK W) (o : Option Nat) : mkR W o < 32 := by
  have h2 : 2 ^ W.g ≤ 2 ^ 5 := Nat.pow_le_pow_right (by decide) hW.1
  have h1 := Nat.two_pow_pos W.g
  cases o with
  | none => show 2 ^ W.g - 1 < 32; omega
  | some i =>
    have : (2 ^ W.g - 1) &&& (31 ^^^ 2 ^ i) ≤ 2 ^ W.g - 1 := Nat.and_le_left
    show (2 ^ W.g - 1) &&& (31 ^^^ 2 ^ i) < 32
    omega
section
variable {W : gW} {G : gG} {S : List gG} {σ : fhM}
theorem c_playR (hW : wOK W) (hg : cGm W G S σ) (hc : chn G.H S) (hS : S.length ≤ 20) (hne : S ≠ []) (hw : G.w ∈ rl W.N G.L) (hH : G.H.length < 2 ^ 30) {o : Option Nat} (ho : ∀ i, o = some i → i < W.g) : wq (f_X11_playRound (oI o) σ) (fun r => r.1 = nI (kb W (rl W.N G.L) G.w &&& mkR W o) ∧ cGm W (gRnd W G (mkR W o)) S r.2 ∧ fpl aDc σ r.2 ∧ r.2.1 57 3 = 0) := by
  have hg5 := hW.1
  have h2 : 2 ^ W.g ≤ 2 ^ 5 := Nat.pow_le_pow_right (by decide) hW.1
  have h1 := Nat.two_pow_pos W.g
  have hm := mkR_lt hW o
  have P := c_play28 hW hg hc hS hne hw hH (mk := mkR W o) (by omega)
  unfold f_X11_playRound fhlet
  rw [hg.1.2.1, ph_shl1 (by omega), nI_dec (by omega)]
  dsimp only
  cases o with
  | none =>
    rw [if_pos (show oI none = (-1 : Int32) from rfl)]
    exact P
  | some i =>
    have hi := ho i rfl
    rw [if_neg (show ¬ oI (some i) = (-1 : Int32) from ph_m1n (by omega)), show oI (some i) = nI i from rfl, ph_shl1 (show i < 31 by omega), ph_andn _ (by omega) i (by omega)]
    exact P
theorem c_round (hW : wOK W) (hg : cGm W G S σ) (hc : chn G.H S) (hw : G.w ∈ rl W.N G.L) (hH : G.H.length < 2 ^ 30) (h8 : ¬ σ.1 0 8 = 0) (hr : G.rd < 999) : wq (f_X11_round σ) (fun r => r.1 = nI (kb W (rl W.N G.L) G.w &&& mkR W none) ∧ cGm W (gRnd W G (mkR W none)) (psh G S) r.2 ∧ fpl aDc σ r.2 ∧ r.2.1 57 3 = 0) := by
  unfold f_X11_round
  rw [if_neg h8, hg.2.2.1.2.2.1, show (999 : Int32) = nI 999 from rfl, if_pos (nI_lt hr (by decide)), wq_bind]
  refine wq_mono (c_saved hW hg hc) (fun s z => ?_)
  rw [wq_bind]
  refine wq_mono (c_playR (o := none) hW z.1 (psh_chn hc) psh_len psh_ne hw hH (fun i hi => by cases hi)) (fun r z2 => ?_)
  rw [wq_some]
  exact ⟨z2.1, z2.2.1, fpl_tr2 z.2 z2.2.2.1, z2.2.2.2⟩
theorem c_undo {G1 : gG} (hW : wOK W) (hg : cGm W G (G1 :: S) σ) (hc : chn G.H (G1 :: S)) : wq (f_X11_undo σ) (fun r => r.1 = true ∧ cGm W G1 S r.2 ∧ fpl aDc σ r.2 ∧ r.2.1 57 3 = 0) := by
  obtain ⟨h1, h2, h3, h4, p, h5⟩ := hg
  have h5' := h5
  obtain ⟨s3, hp, s4, hl, hs⟩ := h5'
  rw [List.length_cons] at hl
  unfold f_X11_undo
  rw [wq_bind]
  refine wq_mono (c_restore hW (tbF_rw h1) h2 h1.2.2.2.1 h5) (fun r z => ?_)
  obtain ⟨z1, z2, z3, z4, z5, z6, z7⟩ := z
  rw [if_pos z1, wq_some]
  have hf : fpl aDc σ r.2 := ⟨fun t j ht => z7.1 t j (fun q => q.elim (fun y => ht (Or.inr (Or.inr (Or.inr y)))) (fun y => ht (Or.inl y))), z7.2⟩
  have e95 : ∀ a j, (a = 95 ∨ a = 97) → r.2.1 a j = σ.1 a j := fun a j ha => (z7.1 a j (by unfold jDp gD4; omega)).1
  obtain ⟨⟨t, et, _⟩, hc2⟩ := hc
  refine ⟨rfl, ⟨tbF_a h1 hf, psF_a h2 hf, z2, ⟨z4, fun k e hk hb => ?_⟩, (p + 19) % 20, z5, Nat.mod_lt _ (by decide), z6, by omega, fun k G2 hk => ?_⟩, hf, z3⟩
  · rw [e95 _ _ (Or.inl rfl), e95 _ _ (Or.inl rfl), e95 _ _ (Or.inl rfl), e95 _ _ (Or.inl rfl)]
    obtain ⟨hlt, _⟩ := List.getElem?_eq_some_iff.mp hk
    refine h4.2 k e ?_ (by rw [bas_c]; exact hb)
    rw [et, List.getElem?_append_left hlt]
    exact hk
  · have hk2 : (G1 :: S)[k + 1]? = some G2 := hk
    obtain ⟨hlt, _⟩ := List.getElem?_eq_some_iff.mp hk
    have := hs (k + 1) G2 hk2
    rw [show ((p + 19) % 20 + 19 - k) % 20 = (p + 19 - (k + 1)) % 20 by omega, show r.2.1 97 = σ.1 97 from funext (fun j => e95 _ _ (Or.inr rfl))]
    exact this
end
