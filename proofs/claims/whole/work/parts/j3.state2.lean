/-! THE WHOLE STATE, the reference's parts -/
def kpQ (t j : Nat) : Prop := t = 29 ∨ t = 32 ∨ t = 37 ∨ t = 38 ∨ t = 39 ∨ t = 44 ∨ t = 51 ∨ (t = 0 ∧ (j = 52 ∨ j = 53 ∨ j = 62 ∨ j = 71 ∨ j = 72))
theorem mGm_k {W : gW} {G : gG} {S : List gG} {σ s : fhM} (h : mGm W G S σ) (e : ∀ t j, kpQ t j → s.1 t j = σ.1 t j) : mGm W G S s := by
  obtain ⟨⟨⟨a1, a2, a3, a4⟩, b1, b2, b3, b4, b5⟩, c, ⟨x, d⟩, f⟩ := h
  have e44 : s.1 44 = σ.1 44 := funext (fun j => e 44 j (by unfold kpQ; omega))
  exact ⟨⟨⟨by rw [e 29 _ (by unfold kpQ; omega)]; exact a1, by rw [e 29 _ (by unfold kpQ; omega)]; exact a2, by rw [e 0 52 (by unfold kpQ; omega)]; exact a3, fun r i y z => by rw [e 39 _ (by unfold kpQ; omega)]; exact a4 r i y z⟩, by rw [e 29 _ (by unfold kpQ; omega)]; exact b1, fun r y => by rw [e 37 _ (by unfold kpQ; omega)]; exact b2 r y, fun r y => by rw [e 38 _ (by unfold kpQ; omega)]; exact b3 r y, fun i y => by rw [e 32 _ (by unfold kpQ; omega)]; exact b4 i y, by rw [e 0 53 (by unfold kpQ; omega)]; exact b5⟩, by rw [e44]; exact c, ⟨x, stkM_a d (fun j => e 51 j (by unfold kpQ; omega)) (e 0 71 (by unfold kpQ; omega)) (e 0 72 (by unfold kpQ; omega))⟩, by rw [e 0 62 (by unfold kpQ; omega)]; exact f⟩
theorem tdM_k {p : Option fhPS} {σ s : fhM} (h : tdM p σ) (e : ∀ t j, t = 29 ∨ (t = 0 ∧ j = 47) → s.1 t j = σ.1 t j) (l : ∀ j, s.2.1 30 j = σ.2.1 30 j) : tdM p s := by
  cases p with
  | none => exact ⟨by rw [e 0 47 (by omega)]; exact h.1, by rw [e 29 7 (by omega)]; exact h.2⟩
  | some p => exact ⟨by rw [e 0 47 (by omega)]; exact h.1, by rw [e 29 7 (by omega)]; exact h.2.1, by rw [e 29 9 (by omega)]; exact h.2.2.1, fun g w hg => by rw [l]; exact h.2.2.2 g w hg⟩
theorem knT_k {W : gW} {σ s : fhM} (h : knT W σ) (e : ∀ j, s.1 40 j = σ.1 40 j) : knT W s := fun n r a b => by rw [e]; exact h n r a b
/-- what the reference's words and rows lie in -/
def kpW (t : Nat) : Prop := (3 ≤ t ∧ t ≤ 28) ∨ (52 ≤ t ∧ t ≤ 75)
theorem wd_out {v : Nat} (h : ¬ kpW v) : (wd v).length = 0 := by
  unfold kpW at h
  rcases Nat.lt_or_ge v 80 with c | c
  · have key : ∀ v, v < 80 → ¬ ((3 ≤ v ∧ v ≤ 28) ∨ (52 ≤ v ∧ v ≤ 75)) → (wd v).length = 0 := by decide +kernel
    exact key v c h
  · unfold wd
    split <;> first | omega | rfl
theorem mW_k2 {σ s : fhM} (h : mW σ) (e : ∀ t j, kpW t → s.1 t j = σ.1 t j) : mW s := mW_fr h (fun v i _ hi => by
  by_cases c : kpW v
  · exact e v i c
  · rw [wd_out c] at hi
    exact absurd hi (Nat.not_lt_zero _))
theorem MS0_k {p : Option fhPS} {G : gG} {S : List gG} {σ s : fhM} (h : MS0 p G S σ) (e : ∀ t j, kpQ t j ∨ kpW t ∨ t = 40 ∨ (t = 0 ∧ j = 47) → s.1 t j = σ.1 t j) (l : ∀ j, s.2.1 30 j = σ.2.1 30 j) : MS0 p G S s := ⟨mW_k2 h.1 (fun t j z => e t j (Or.inr (Or.inl z))), tdM_k h.2.1 (fun t j z => e t j (by unfold kpQ; omega)) l, mGm_k h.2.2.1 (fun t j z => e t j (Or.inl z)), knT_k h.2.2.2 (fun j => e 40 j (by omega))⟩
def kpN (t j : Nat) : Prop := (t = 0 ∧ (j = 1 ∨ j = 7 ∨ j = 8 ∨ j = 68 ∨ j = 109)) ∨ t = 1 ∨ t = 2 ∨ t = 50 ∨ t = 79
theorem MS1_k {T H : tT} {q : Nat → Int32} {f : Int32 × Int32} {d : Nat} {i : Nat × (Nat → Nat)} {σ s : fhM} (h : MS1 T H q f d i σ) (e : ∀ t j, kpN t j → s.1 t j = σ.1 t j) (l : s.2.1 0 73 = σ.2.1 0 73) : MS1 T H q f d i s := by
  obtain ⟨⟨a1, a2⟩, ⟨b1, b2⟩, c, ⟨d1, d2⟩, e1, f1, f2⟩ := h
  exact ⟨⟨by rw [e 0 1 (by unfold kpN; omega)]; exact a1, fun j hj => by rw [e 1 j (by unfold kpN; omega)]; exact a2 j hj⟩, ⟨by rw [e 0 68 (by unfold kpN; omega)]; exact b1, fun k hk => by rw [e 50 k (by unfold kpN; omega)]; exact b2 k hk⟩, fun k hk => by rw [e 2 k (by unfold kpN; omega)]; exact c k hk, ⟨by rw [e 0 7 (by unfold kpN; omega)]; exact d1, by rw [e 0 8 (by unfold kpN; omega)]; exact d2⟩, by rw [l]; exact e1, by rw [e 0 109 (by unfold kpN; omega)]; exact f1, fun j hj => by rw [e 79 j (by unfold kpN; omega)]; exact f2 j hj⟩
/-- what a valid state brings -/
theorem aW_ok {n : Nat} {A : aS} (h : AV n A) : wOK (aW A.p) := by
  have h0 := h.2.1
  cases hp : A.p with
  | none => exact wNo_ok
  | some p =>
    rw [hp] at h0
    obtain ⟨⟨T, k, ho⟩, -⟩ := h0
    exact wOf_ok ho
theorem AV_G {n : Nat} {A : aS} (h : AV n A) : (0 < (aW A.p).g → A.G.w ∈ rl (aW A.p).N A.G.L) ∧ (0 < (aW A.p).F → A.G.w ∈ rl (aW A.p).N A.G.L) ∧ (∀ r, A.G.L r = true → (aW A.p).al r = true) ∧ lin (aW A.p) A.G.L ∧ A.G.rd ≤ 999 := by
  have h0 := h.2.1
  have hW := aW_ok h
  cases hp : A.p with
  | none =>
    rw [hp] at h0
    obtain ⟨h1, -⟩ := h0
    rw [h1]
    exact ⟨fun z => absurd z (Nat.not_lt_zero _), fun z => absurd z (Nat.not_lt_zero _), fun r hr => (by cases hr), fun r hr => (by cases hr), Nat.zero_le _⟩
  | some p =>
    rw [hp] at h0 hW
    obtain ⟨-, ⟨g1, g2, g3⟩, -⟩ := h0
    exact ⟨fun _ => g1, fun _ => g1, g2, fun r hr => hW.2.2.2.2.2.2.1 r (g2 r hr), g3⟩
theorem wOf_N {T : tT} {p : fhPS} {k : Nat} (h : sOK T p k) : (wOf p).N = (wOf p).m ^ (wOf p).g ∧ 2 ≤ (wOf p).m := ⟨rfl, h.2.2.1⟩
