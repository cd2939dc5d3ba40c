/-! ACTIONS, the reference: saving, what is said -/
def aDm (t j : Nat) : Prop := t = 51 ∨ t = 44 ∨ t = 46 ∨ t = 42 ∨ t = 47 ∨ t = 48 ∨ (t = 0 ∧ (j = 71 ∨ j = 72))
/-- the reference's tests, laid once a parlour -/
def mtb (W : gW) (σ : fhM) : Prop := rwM' W σ ∧ σ.1 29 8 = nI W.F ∧ (∀ r, r < W.N → σ.1 37 r = nI (if W.al r = true then 1 else 0)) ∧ (∀ r, r < W.N → σ.1 38 r = nI (W.tr r)) ∧ (∀ i, i < W.g → σ.1 32 (5 + i) = nI (W.sb i)) ∧ σ.1 0 53 = nI (rl W.N W.al).length
theorem mtb_a {W : gW} {σ s : fhM} (h : mtb W σ) (hf : fr aDm σ s) : mtb W s := by
  have e : ∀ t j, (t = 29 ∨ t = 37 ∨ t = 38 ∨ t = 39 ∨ t = 32 ∨ (t = 0 ∧ (j = 52 ∨ j = 53))) → s.1 t j = σ.1 t j := fun t j ht => hf.2 t j (by unfold aDm; omega)
  obtain ⟨⟨a1, a2, a3, a4⟩, b1, b2, b3, b4, b5⟩ := h
  exact ⟨⟨by rw [e _ _ (by omega)]; exact a1, by rw [e _ _ (by omega)]; exact a2, by rw [e _ _ (by omega)]; exact a3, fun r i hr hi => by rw [e _ _ (by omega)]; exact a4 r i hr hi⟩, by rw [e _ _ (by omega)]; exact b1, fun r hr => by rw [e _ _ (by omega)]; exact b2 r hr, fun r hr => by rw [e _ _ (by omega)]; exact b3 r hr, fun i hi => by rw [e _ _ (by omega)]; exact b4 i hi, by rw [e _ _ (by omega)]; exact b5⟩
/-- a table that holds a game -/
def tbM (G : gG) (f : Nat → Int32) : Prop := f 0 = nI G.rd ∧ f 1 = nI G.w ∧ (∀ r, r < 1024 → f (2 + r) = nI (if G.L r = true then 1 else 0)) ∧ f 1026 = nI (lst40 G.H).length ∧ ∀ k e, (lst40 G.H)[k]? = some e → f (1027 + 4 * k) = nI e.1 ∧ f (1027 + 4 * k + 1) = nI e.2.1 ∧ f (1027 + 4 * k + 2) = nI e.2.2.1 ∧ f (1027 + 4 * k + 3) = nI e.2.2.2
theorem tbM_c {G : gG} {f g : Nat → Int32} (h : tbM G f) (he : ∀ j, j < 1187 → g j = f j) : tbM G g := by
  obtain ⟨a1, a2, a3, a4, a5⟩ := h
  refine ⟨by rw [he _ (by omega)]; exact a1, by rw [he _ (by omega)]; exact a2, fun r hr => by rw [he _ (by omega)]; exact a3 r hr, by rw [he _ (by omega)]; exact a4, fun k e hk => ?_⟩
  obtain ⟨hlt, _⟩ := List.getElem?_eq_some_iff.mp hk
  rw [lst40_len] at hlt
  rw [he _ (by omega), he _ (by omega), he _ (by omega), he _ (by omega)]
  exact a5 k e hk
theorem tbM_g {W : gW} {G : gG} {σ : fhM} (h : tbM G (σ.1 44)) : gmM W G.L G.w G.rd σ ∧ kpM (lst40 G.H) σ := ⟨⟨h.2.2.1, h.2.1, h.1⟩, h.2.2.2.1, by rw [lst40_len]; exact Nat.min_le_right _ _, h.2.2.2.2⟩
def stkM (S : List gG) (x : Nat) (σ : fhM) : Prop := σ.1 0 72 = nI x ∧ x < 20 ∧ σ.1 0 71 = nI S.length ∧ S.length ≤ 20 ∧ ∀ k G, S[k]? = some G → tbM G (fun j => σ.1 51 (1187 * ((x + 20 - k) % 20) + j))
def mGm (W : gW) (G : gG) (S : List gG) (σ : fhM) : Prop := mtb W σ ∧ tbM G (σ.1 44) ∧ (∃ x, stkM S x σ) ∧ σ.1 0 62 = 0
theorem fr_U {D : Nat → Nat → Prop} {σ σ' : fhM} {t : Nat} {g : Nat → Int32} (h : fr D σ σ') (hd : ∀ j, D t j) : fr D σ (fhU σ' t g) := ⟨h.1, fun a j n => by
  by_cases q : a = t
  · exact absurd (by rw [q]; exact hd j) n
  · rw [fhU_o q]; exact h.2 a j n⟩
section
variable {W : gW} {G : gG} {S : List gG} {σ : fhM}
theorem m_saved (hg : mGm W G S σ) : wq (f_X12_keeps σ) (fun s => mGm W G (psh G S) s ∧ fr aDm σ s) := by
  obtain ⟨h1, h2, ⟨x, s1, hx, s2, hl, hs⟩, h62⟩ := hg
  refine wq_mono (m_keeps s1 hx s2 hl) (fun s z => ?_)
  obtain ⟨t, rfl, ht, hf⟩ := z
  have hfr : fr aDm σ (fhI (fhU (fhI σ 0 72 (nI ((x + 1) % 20))) 51 t) 0 71 (nI (min (S.length + 1) 20))) := fr_I (fr_U (fr_I fr_rf (by unfold aDm; omega)) (fun j => by unfold aDm; omega)) (by unfold aDm; omega)
  have lenp : (psh G S).length = min (S.length + 1) 20 := by
    unfold psh
    rw [List.length_cons, List.length_take]
    omega
  have e51 : ∀ j, (fhI (fhU (fhI σ 0 72 (nI ((x + 1) % 20))) 51 t) 0 71 (nI (min (S.length + 1) 20))).1 51 j = t j := fun j => by rw [fhI_o (by decide), fhU_e]
  refine ⟨⟨mtb_a h1 hfr, ?_, ⟨(x + 1) % 20, ?_, Nat.mod_lt _ (by decide), ?_, ?_, fun k G2 hk => ?_⟩, ?_⟩, hfr⟩
  · refine tbM_c h2 (fun j _ => ?_)
    rw [fhI_o (by decide), fhU_o (by decide), fhI_o (by decide)]
  · rw [fhI_s (by decide), fhU_o (by decide), fhI_e]
  · rw [fhI_e, lenp]
  · rw [lenp]; omega
  · cases k with
    | zero =>
      have : G = G2 := by
        have : some G = some G2 := hk
        cases this; rfl
      rw [← this]
      refine tbM_c h2 (fun j hj => ?_)
      rw [e51, show ((x + 1) % 20 + 20 - 0) % 20 = (x + 1) % 20 by omega]
      exact ht j hj
    | succ k =>
      have hk2 : (S.take 19)[k]? = some G2 := hk
      have hk19 : k < 19 := by
        obtain ⟨y, _⟩ := List.getElem?_eq_some_iff.mp hk2
        rw [List.length_take] at y
        omega
      rw [List.getElem?_take_of_lt hk19] at hk2
      refine tbM_c (hs k G2 hk2) (fun j hj => ?_)
      (try dsimp only)
      rw [e51, show ((x + 1) % 20 + 20 - (k + 1)) % 20 = (x + 20 - k) % 20 by omega]
      have hne : (x + 20 - k) % 20 ≠ (x + 1) % 20 := by omega
      have hlt : (x + 20 - k) % 20 < 20 := Nat.mod_lt _ (by decide)
      have hlt2 : (x + 1) % 20 < 20 := Nat.mod_lt _ (by decide)
      generalize (x + 20 - k) % 20 = a at hne hlt
      generalize (x + 1) % 20 = b at hne hlt2 hf
      exact hf _ (by omega)
  · rw [fhI_s (by decide), fhU_o (by decide), fhI_s (by decide)]; exact h62
theorem m_undo {G1 : gG} (hg : mGm W G (G1 :: S) σ) : wq (f_X12_undo σ) (fun r => r.1 = true ∧ mGm W G1 S r.2 ∧ fr aDm σ r.2) := by
  obtain ⟨h1, h2, ⟨x, s1, hx, s2, hl, hs⟩, h62⟩ := hg
  rw [List.length_cons] at s2 hl
  refine wq_mono (m_undoT s1 hx s2 (by omega)) (fun r z => ?_)
  obtain ⟨z1, f, z2, z3, z4⟩ := z
  have hfr : fr aDm σ r.2 := by
    rw [z2]
    exact fr_I (fr_I (fr_U fr_rf (fun j => by unfold aDm; omega)) (by unfold aDm; omega)) (by unfold aDm; omega)
  refine ⟨z1, ⟨mtb_a h1 hfr, ?_, ⟨(x + 19) % 20, ?_, Nat.mod_lt _ (by decide), ?_, by omega, fun k G2 hk => ?_⟩, ?_⟩, hfr⟩
  · refine tbM_c (hs 0 G1 rfl) (fun j hj => ?_)
    (try dsimp only)
    rw [z2, fhI_o (by decide), fhI_o (by decide), fhU_e, z3 j hj, show (x + 20 - 0) % 20 = x by omega]
  · rw [z2, fhI_s (by decide), fhI_e]
  · rw [z2, fhI_e]
  · have hk2 : (G1 :: S)[k + 1]? = some G2 := hk
    obtain ⟨hlt, _⟩ := List.getElem?_eq_some_iff.mp hk
    refine tbM_c (hs (k + 1) G2 hk2) (fun j hj => ?_)
    (try dsimp only)
    rw [z2, fhI_o (by decide), fhI_o (by decide), fhU_o (by decide), show ((x + 19) % 20 + 20 - k) % 20 = (x + 20 - (k + 1)) % 20 by omega]
  · rw [z2, fhI_s (by decide), fhI_s (by decide), fhU_o (by decide)]; exact h62
end
