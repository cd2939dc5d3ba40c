/-! ACTIONS, the class: saving, then what is said -/
theorem bas_c (H : List kE) (G : gG) (S : List gG) : bas H (G :: S) = bas G.H S := by
  unfold bas
  cases S with
  | nil => rfl
  | cons G2 S => rfl
theorem chn_take : ∀ {S : List gG} {H : List kE} (k : Nat), chn H S → chn H (S.take k) := by
  intro S
  induction S with
  | nil => intro H k _; rw [List.take_nil]; exact True.intro
  | cons G S ih =>
    intro H k h
    cases k with
    | zero => exact True.intro
    | succ k => exact ⟨h.1, ih k h.2⟩
theorem bas_take : ∀ {S : List gG} {H : List kE} (k : Nat), chn H S → bas H S ≤ bas H (S.take k) := by
  intro S
  induction S with
  | nil => intro H k _; rw [List.take_nil]; exact Nat.le_refl _
  | cons G S ih =>
    intro H k h
    cases k with
    | zero => exact (chn_len h).1
    | succ k =>
      rw [List.take_succ_cons, bas_c, bas_c]
      exact ih k h.2
theorem rngF_le {b b2 : Nat} {H : List kE} {σ : fhM} (h : rngF b H σ) (hb : b ≤ b2) : rngF b2 H σ := ⟨h.1, fun k e hk hb2 => h.2 k e hk (by omega)⟩
/-- the class holds game G, with S saved -/
def cGm (W : gW) (G : gG) (S : List gG) (σ : fhM) : Prop := tbF W W.N σ ∧ psF σ ∧ gmF W G.L G.w G.rd σ ∧ rngF (bas G.H S) G.H σ ∧ ∃ p, stkF W.N S p σ
def psh (G : gG) (S : List gG) : List gG := G :: S.take 19
theorem psh_chn {G : gG} {S : List gG} (h : chn G.H S) : chn G.H (psh G S) := ⟨⟨[], (List.append_nil _).symm, by decide⟩, chn_take 19 h⟩
def aDc (t : Nat) : Prop := t = 93 ∨ t = 95 ∨ t = 97 ∨ gD4 t
theorem aDc_n {t : Nat} (h1 : t < 56) : ¬ aDc t := by
  unfold aDc gD4
  omega
theorem tbF_a {W : gW} {σ s : fhM} (h : tbF W W.N σ) (hf : fpl aDc σ s) : tbF W W.N s := by
  have e : ∀ t j, t < 56 → s.1 t j = σ.1 t j := fun t j ht => (hf.1 t j (aDc_n ht)).1
  obtain ⟨a1, a2, a3, a4, a5, a6, a7, a8, a9, b1, b2, b3⟩ := h
  exact ⟨by rw [e _ _ (by decide)]; exact a1, by rw [e _ _ (by decide)]; exact a2, by rw [e _ _ (by decide)]; exact a3, by rw [e _ _ (by decide)]; exact a4, by rw [e _ _ (by decide)]; exact a5, fun k hk => by rw [e _ _ (by decide)]; exact a6 k hk, fun k hk => by rw [e _ _ (by decide)]; exact a7 k hk, fun r i hr hi => by rw [e _ _ (by decide)]; exact a8 r i hr hi, fun r i hr hi => by rw [e _ _ (by decide)]; exact a9 r i hr hi, fun r hr => by rw [e _ _ (by decide)]; exact b1 r hr, fun r hr ha => by rw [e _ _ (by decide)]; exact b2 r hr ha, fun k hk => by rw [e _ _ (by decide)]; exact b3 k hk⟩
theorem psF_a {σ s : fhM} (h : psF σ) (hf : fpl aDc σ s) : psF s := fun j hj => by rw [(hf.1 49 j (aDc_n (by decide))).1]; exact h j hj
theorem gD4_a {σ s : fhM} (h : fpl gD4 σ s) : fpl aDc σ s := ⟨fun t j ht => h.1 t j (fun z => ht (Or.inr (Or.inr (Or.inr z)))), h.2⟩
theorem fpl_tr2 {D : Nat → Prop} {a b c : fhM} (h1 : fpl D a b) (h2 : fpl D b c) : fpl D a c := ⟨fun t j ht => ⟨by rw [(h2.1 t j ht).1, (h1.1 t j ht).1], by rw [(h2.1 t j ht).2, (h1.1 t j ht).2]⟩, by rw [h2.2, h1.2]⟩
section
variable {W : gW} {G : gG} {S : List gG} {σ : fhM}
theorem c_saved (hW : wOK W) (hg : cGm W G S σ) (hc : chn G.H S) : wq (f_X6_save σ) (fun s => cGm W G (psh G S) s ∧ fpl aDc σ s) := by
  obtain ⟨h1, h2, h3, h4, p, h5⟩ := hg
  have h5' := h5
  obtain ⟨s3, hp, s4, hl, hs⟩ := h5'
  refine wq_mono (c_save hW h3 h4.1 h5) (fun s z => ?_)
  obtain ⟨t, rfl, ht, hf⟩ := z
  have hfr : fpl aDc σ (fhI (fhI (fhU σ 97 t) 93 3 (nI ((p + 1) % 20))) 93 4 (nI (min (S.length + 1) 20))) := fpl_I (fpl_I (fpl_U fpl_rf (Or.inr (Or.inr (Or.inl rfl)))) (Or.inl rfl)) (Or.inl rfl)
  have eo : ∀ a j, a ≠ 93 → a ≠ 97 → (fhI (fhI (fhU σ 97 t) 93 3 (nI ((p + 1) % 20))) 93 4 (nI (min (S.length + 1) 20))).1 a j = σ.1 a j := fun a j x y => by rw [fhI_o x, fhI_o x, fhU_o y]
  have lenp : (psh G S).length = min (S.length + 1) 20 := by
    unfold psh
    rw [List.length_cons, List.length_take]
    omega
  refine ⟨⟨tbF_a h1 hfr, psF_a h2 hfr, ?_, ?_, (p + 1) % 20, ?_, Nat.mod_lt _ (by decide), ?_, ?_, ?_⟩, hfr⟩
  · obtain ⟨g1, g2, g3, g4, g5⟩ := h3
    exact ⟨by rw [eo _ _ (by decide) (by decide)]; exact g1, by rw [eo _ _ (by decide) (by decide)]; exact g2, by rw [eo _ _ (by decide) (by decide)]; exact g3, fun k hk => by rw [eo _ _ (by decide) (by decide)]; exact g4 k hk, fun r hr => by rw [eo _ _ (by decide) (by decide)]; exact g5 r hr⟩
  · refine rngF_le (b := bas G.H S) ⟨?_, fun k e hk hb => ?_⟩ ?_
    · rw [fhI_s (by decide), fhI_s (by decide), fhU_o (by decide)]; exact h4.1
    · rw [eo _ _ (by decide) (by decide), eo _ _ (by decide) (by decide), eo _ _ (by decide) (by decide), eo _ _ (by decide) (by decide)]
      exact h4.2 k e hk hb
    · unfold psh
      rw [bas_c]
      exact bas_take 19 hc
  · rw [fhI_s (by decide), fhI_e]
  · rw [fhI_e, lenp]
  · rw [lenp]; omega
  · intro k G2 hk
    have e97 : (fhI (fhI (fhU σ 97 t) 93 3 (nI ((p + 1) % 20))) 93 4 (nI (min (S.length + 1) 20))).1 97 = t := by
      funext j
      rw [fhI_o (by decide), fhI_o (by decide), fhU_e]
    rw [e97]
    cases k with
    | zero =>
      have : G = G2 := by
        have : some G = some G2 := hk
        cases this; rfl
      rw [← this, show ((p + 1) % 20 + 19 - 0) % 20 = p by omega]
      exact ht
    | succ k =>
      have hk2 : (S.take 19)[k]? = some G2 := hk
      have hk19 : k < 19 := by
        obtain ⟨x, _⟩ := List.getElem?_eq_some_iff.mp hk2
        rw [List.length_take] at x
        omega
      rw [List.getElem?_take_of_lt hk19] at hk2
      obtain ⟨a1, a2, a3, a4⟩ := hs k G2 hk2
      have e : ((p + 1) % 20 + 19 - (k + 1)) % 20 = (p + 19 - k) % 20 := by omega
      have hne : (p + 19 - k) % 20 ≠ p := by omega
      have hlt : (p + 19 - k) % 20 < 20 := Nat.mod_lt _ (by decide)
      rw [e]
      generalize (p + 19 - k) % 20 = q at a1 a2 a3 a4 hne hlt
      refine ⟨by rw [hf _ (by omega)]; exact a1, by rw [hf _ (by omega)]; exact a2, by rw [hf _ (by omega)]; exact a3, fun x hx => ?_⟩
      obtain ⟨a, ha, hb⟩ := a4 x hx
      exact ⟨a, by rw [hf _ (by omega)]; exact ha, hb⟩
/-- something told: the rows left are fewer, the history longer -/
theorem c_noted (hW : wOK W) {L2 : Nat → Bool} {rd2 : Nat} (h1 : tbF W W.N σ) (h2 : psF σ) (h3 : gmF W L2 G.w rd2 σ) (h4 : rngF (bas G.H S) G.H σ) (h5 : ∃ p, stkF W.N S p σ) (hc : chn G.H S) (hS : S.length ≤ 20) (hne : S ≠ []) (hH : G.H.length < 2 ^ 30) (e : kE) : cGm W (rd2, G.w, L2, G.H ++ [e]) S (f_X6_write (nI e.1) (nI e.2.1) (nI e.2.2.1) (nI e.2.2.2) σ) ∧ fpl aDc σ (f_X6_write (nI e.1) (nI e.2.1) (nI e.2.2.1) (nI e.2.2.2) σ) ∧ (f_X6_write (nI e.1) (nI e.2.1) (nI e.2.2.1) (nI e.2.2.2) σ).1 57 3 = σ.1 57 3 := by
  have hl := chn_len hc
  have hb : bas (G.H ++ [e]) S = bas G.H S := by
    cases S with
    | nil => exact absurd rfl hne
    | cons a b => rw [bas_c, bas_c]
  obtain ⟨t, E, hr⟩ := c_write h4 (by omega) hH e
  have hfr : fpl aDc σ (fhI (fhU σ 95 t) 93 1 (nI (G.H.length + 1))) := fpl_I (fpl_U fpl_rf (Or.inr (Or.inl rfl))) (Or.inl rfl)
  have eo : ∀ a j, a ≠ 93 → a ≠ 95 → (fhI (fhU σ 95 t) 93 1 (nI (G.H.length + 1))).1 a j = σ.1 a j := fun a j x y => by rw [fhI_o x, fhU_o y]
  rw [E]
  refine ⟨⟨tbF_a h1 hfr, psF_a h2 hfr, ?_, ?_, ?_⟩, hfr, eo 57 3 (by decide) (by decide)⟩
  · obtain ⟨g1, g2, g3, g4, g5⟩ := h3
    exact ⟨by rw [eo _ _ (by decide) (by decide)]; exact g1, by rw [eo _ _ (by decide) (by decide)]; exact g2, by rw [eo _ _ (by decide) (by decide)]; exact g3, fun k hk => by rw [eo _ _ (by decide) (by decide)]; exact g4 k hk, fun r hr => by rw [eo _ _ (by decide) (by decide)]; exact g5 r hr⟩
  · show rngF (bas (G.H ++ [e]) S) (G.H ++ [e]) _
    rw [hb]
    exact hr
  · obtain ⟨p, s3, hp, s4, hl2, hs⟩ := h5
    refine ⟨p, ?_, hp, ?_, hl2, fun k G2 hk => ?_⟩
    · rw [fhI_s (by decide), fhU_o (by decide)]; exact s3
    · rw [fhI_s (by decide), fhU_o (by decide)]; exact s4
    · have e97 : (fhI (fhU σ 95 t) 93 1 (nI (G.H.length + 1))).1 97 = σ.1 97 := by
        funext j
        rw [eo _ _ (by decide) (by decide)]
      rw [e97]
      exact hs k G2 hk
end
