/-! THE WHOLE STATE -/
abbrev aS : Type := tT × Option fhPS × gG × List gG × tT × (Nat → Int32) × (Int32 × Int32) × Nat × (Nat × (Nat → Nat))
abbrev aS.T (A : aS) : tT := A.1
abbrev aS.p (A : aS) : Option fhPS := A.2.1
abbrev aS.G (A : aS) : gG := A.2.2.1
abbrev aS.S (A : aS) : List gG := A.2.2.2.1
abbrev aS.H (A : aS) : tT := A.2.2.2.2.1
abbrev aS.q (A : aS) : Nat → Int32 := A.2.2.2.2.2.1
abbrev aS.f (A : aS) : Int32 × Int32 := A.2.2.2.2.2.2.1
abbrev aS.d (A : aS) : Nat := A.2.2.2.2.2.2.2.1
abbrev aS.i (A : aS) : Nat × (Nat → Nat) := A.2.2.2.2.2.2.2.2
noncomputable def aW (p : Option fhPS) : gW := match p with
  | none => wNo
  | some p => wOf p
def tdF (p : Option fhPS) (σ : fhM) : Prop := match p with
  | none => σ.1 0 8 = 0 ∧ σ.1 (σ.2.2 0 6) 9 = 0 ∧ σ.1 (σ.2.2 0 6) 11 = 0 ∧ σ.1 75 0 = 0
  | some p => σ.1 0 8 = 1 ∧ ∃ out, cRp (σ.2.2 0 6) p out σ
def tdM (p : Option fhPS) (σ : fhM) : Prop := match p with
  | none => σ.1 0 47 = 0 ∧ σ.1 29 7 = 0
  | some p => σ.1 0 47 = 1 ∧ stM p σ
/-- the class's game part, its other part -/
def CS0 (p : Option fhPS) (G : gG) (S : List gG) (σ : fhM) : Prop := swp (σ.2.2 0 6) (σ.2.2 0 7) 15 27 ∧ tdF p σ ∧ cGm (aW p) G S σ ∧ ahF (aW p) G.L G.w σ ∧ anC (aW p) σ
def CS1 (T : tT) (H : tT) (q : Nat → Int32) (f : Int32 × Int32) (d : Nat) (i : Nat × (Nat → Nat)) (σ : fhM) : Prop := (σ.1 0 1 = nI T.2 ∧ cX T σ) ∧ heF H σ ∧ (∀ k, k < 6 → σ.1 101 k = q k) ∧ (σ.1 0 17 = f.1 ∧ σ.1 0 18 = f.2) ∧ σ.1 0 16 = nI d ∧ σ.1 0 14 = nI i.1 ∧ ∀ j, j < i.1 → σ.1 99 j = nI (i.2 j)
def CS (A : aS) (σ : fhM) : Prop := CS0 A.p A.G A.S σ ∧ CS1 A.T A.H A.q A.f A.d A.i σ
def MS0 (p : Option fhPS) (G : gG) (S : List gG) (σ : fhM) : Prop := mW σ ∧ tdM p σ ∧ mGm (aW p) G S σ ∧ knT (aW p) σ
def MS1 (T : tT) (H : tT) (q : Nat → Int32) (f : Int32 × Int32) (d : Nat) (i : Nat × (Nat → Nat)) (σ : fhM) : Prop := (σ.1 0 1 = nI T.2 ∧ ∀ i, i < T.2 → σ.1 1 i = nI (T.1 i)) ∧ heM H σ ∧ (∀ k, k < 6 → σ.1 2 k = q k) ∧ (σ.1 0 7 = f.1 ∧ σ.1 0 8 = f.2) ∧ σ.2.1 0 73 = lN d ∧ σ.1 0 109 = nI i.1 ∧ ∀ j, j < i.1 → σ.1 79 j = nI (i.2 j)
def MS (A : aS) (σ : fhM) : Prop := MS0 A.p A.G A.S σ ∧ MS1 A.T A.H A.q A.f A.d A.i σ
def gV (W : gW) (G : gG) : Prop := G.w ∈ rl W.N G.L ∧ (∀ r, G.L r = true → W.al r = true) ∧ G.rd ≤ 999
def AV0 (p : Option fhPS) (G : gG) (S : List gG) : Prop := match p with
  | none => G = g00 ∧ S = []
  | some p => (∃ T k, sOK T p k) ∧ gV (wOf p) G ∧ ∀ G2 ∈ S, gV (wOf p) G2
def AV (n : Nat) (A : aS) : Prop := tOK A.T ∧ AV0 A.p A.G A.S ∧ chn A.G.H A.S ∧ A.S.length ≤ 20 ∧ A.G.H.length ≤ 20 * n ∧ heV (aW A.p) A.H ∧ A.d < 2147483648 ∧ A.i.1 ≤ 136
/-- how the class's game part is kept -/
def kpC (t j : Nat) : Prop := (t = 0 ∧ j = 8) ∨ (15 ≤ t ∧ t ≤ 56) ∨ t = 73 ∨ t = 75 ∨ t = 93 ∨ t = 95 ∨ t = 97
theorem swp_P {P Q : Nat} (h : swp P Q 15 27) : fhiP P = true ∧ fhiP Q = true ∧ 15 ≤ P ∧ P ≤ 27 ∧ P ≠ 0 := by
  rcases h with ⟨rfl, rfl⟩ | ⟨rfl, rfl⟩ <;> exact ⟨rfl, rfl, by decide, by decide, by decide⟩
theorem cGm_k {W : gW} {G : gG} {S : List gG} {σ s : fhM} (h : cGm W G S σ) (e : ∀ t j, kpC t j → s.1 t j = σ.1 t j) : cGm W G S s := by
  obtain ⟨h1, h2, ⟨g1, g2, g3, g4, g5⟩, h4, p, s3, hp, s4, hl2, hs⟩ := h
  have e97 : s.1 97 = σ.1 97 := funext (fun j => e 97 j (by unfold kpC; omega))
  have t1 : tbF W W.N s := by
    obtain ⟨a1, a2, a3, a4, a5, a6, a7, a8, a9, a10, a11, a12⟩ := h1
    have e' : ∀ t j, 39 ≤ t → t ≤ 55 → s.1 t j = σ.1 t j := fun t j a b => e t j (by unfold kpC; omega)
    exact ⟨by rw [e' 39 _ (by decide) (by decide)]; exact a1, by rw [e' 39 _ (by decide) (by decide)]; exact a2, by rw [e' 39 _ (by decide) (by decide)]; exact a3, by rw [e' 39 _ (by decide) (by decide)]; exact a4, by rw [e' 39 _ (by decide) (by decide)]; exact a5, fun k hk => by rw [e' 41 _ (by decide) (by decide)]; exact a6 k hk, fun k hk => by rw [e' 51 _ (by decide) (by decide)]; exact a7 k hk, fun r i x y => by rw [e' 43 _ (by decide) (by decide)]; exact a8 r i x y, fun r i x y => by rw [e' 45 _ (by decide) (by decide)]; exact a9 r i x y, fun r x => by rw [e' 47 _ (by decide) (by decide)]; exact a10 r x, fun r x y => by rw [e' 53 _ (by decide) (by decide)]; exact a11 r x y, fun k x => by rw [e' 55 _ (by decide) (by decide)]; exact a12 k x⟩
  refine ⟨t1, fun j hj => by rw [e 49 j (by unfold kpC; omega)]; exact h2 j hj, ⟨by rw [e 56 _ (by unfold kpC; omega)]; exact g1, by rw [e 56 _ (by unfold kpC; omega)]; exact g2, by rw [e 56 _ (by unfold kpC; omega)]; exact g3, fun k hk => by rw [e 73 _ (by unfold kpC; omega)]; exact g4 k hk, fun r hr => by rw [e 75 _ (by unfold kpC; omega)]; exact g5 r hr⟩, ⟨by rw [e 93 _ (by unfold kpC; omega)]; exact h4.1, fun k x hk hb => by
    rw [e 95 _ (by unfold kpC; omega), e 95 _ (by unfold kpC; omega), e 95 _ (by unfold kpC; omega), e 95 _ (by unfold kpC; omega)]
    exact h4.2 k x hk hb⟩, p, by rw [e 93 _ (by unfold kpC; omega)]; exact s3, hp, by rw [e 93 _ (by unfold kpC; omega)]; exact s4, hl2, fun k G2 hk => by rw [e97]; exact hs k G2 hk⟩
theorem tdF_k {p : Option fhPS} {σ s : fhM} (hs : swp (σ.2.2 0 6) (σ.2.2 0 7) 15 27) (h : tdF p σ) (e : ∀ t j, kpC t j → s.1 t j = σ.1 t j) (r : s.2.2 0 6 = σ.2.2 0 6) : tdF p s := by
  have hp := swp_P hs
  cases p with
  | none =>
    obtain ⟨a, b, c, d⟩ := h
    exact ⟨by rw [e 0 8 (by unfold kpC; omega)]; exact a, by rw [r, e _ 9 (by unfold kpC; omega)]; exact b, by rw [r, e _ 11 (by unfold kpC; omega)]; exact c, by rw [e 75 0 (by unfold kpC; omega)]; exact d⟩
  | some p =>
    obtain ⟨a, out, b⟩ := h
    exact ⟨by rw [e 0 8 (by unfold kpC; omega)]; exact a, out, by rw [r]; exact cRp_fr b (fun t j x y => e t j (by unfold kpC; omega))⟩
theorem ahF_k {W : gW} {L : Nat → Bool} {w0 : Nat} {σ s : fhM} (h : ahF W L w0 σ) (e : ∀ t j, t = 57 ∨ t = 63 → s.1 t j = σ.1 t j) : ahF W L w0 s := by
  rcases h with h | ⟨a, b, f, c, d⟩
  · exact Or.inl (by rw [e 57 3 (Or.inl rfl)]; exact h)
  · refine Or.inr ⟨by rw [e 57 3 (Or.inl rfl)]; exact a, fun i hi => ?_, f, by rw [e 57 5 (Or.inl rfl)]; exact c, d⟩
    obtain ⟨x, y, z⟩ := b i hi
    exact ⟨x, by rw [e 63 i (Or.inr rfl)]; exact y, z⟩
theorem anC_k {W : gW} {σ s : fhM} (h : anC W σ) (e : ∀ t j, (t = 76 ∧ j = 9) ∨ t = 88 → s.1 t j = σ.1 t j) (r : ∀ j, s.2.2 76 j = σ.2.2 76 j) : anC W s := by
  obtain ⟨⟨A, B, C, D, h1, h2, r1, r2, r3, r4⟩, h3⟩ := h
  refine ⟨⟨A, B, C, D, h1, h2, by rw [r]; exact r1, by rw [r]; exact r2, by rw [r]; exact r3, by rw [r]; exact r4⟩, ?_⟩
  rcases h3 with h3 | ⟨h3, h4⟩
  · exact Or.inl (by rw [e 76 9 (Or.inl ⟨rfl, rfl⟩)]; exact h3)
  · exact Or.inr ⟨by rw [e 76 9 (Or.inl ⟨rfl, rfl⟩)]; exact h3, fun r i a b => by rw [e 88 _ (Or.inr rfl)]; exact h4 r i a b⟩
/-- kept with what lies ahead, what would be anew, given -/
theorem CS0_q {p : Option fhPS} {G : gG} {S : List gG} {σ s : fhM} (h : CS0 p G S σ) (e : ∀ t j, kpC t j → s.1 t j = σ.1 t j) (r : ∀ j, s.2.2 0 j = σ.2.2 0 j) (ha : ahF (aW p) G.L G.w s) (hb : anC (aW p) s) : CS0 p G S s := ⟨by rw [r, r]; exact h.1, tdF_k h.1 h.2.1 e (r 6), cGm_k h.2.2.1 e, ha, hb⟩
theorem CS0_k {p : Option fhPS} {G : gG} {S : List gG} {σ s : fhM} (h : CS0 p G S σ) (e : ∀ t j, kpC t j ∨ t = 57 ∨ t = 63 ∨ (t = 76 ∧ j = 9) ∨ t = 88 → s.1 t j = σ.1 t j) (r : ∀ t j, t = 0 ∨ t = 76 → s.2.2 t j = σ.2.2 t j) : CS0 p G S s := CS0_q h (fun t j z => e t j (Or.inl z)) (fun j => r 0 j (Or.inl rfl)) (ahF_k h.2.2.2.1 (fun t j z => e t j (by omega))) (anC_k h.2.2.2.2 (fun t j z => e t j (by omega)) (fun j => r 76 j (Or.inr rfl)))
def kpD (t j : Nat) : Prop := (t = 0 ∧ (j = 1 ∨ j = 14 ∨ j = 16 ∨ j = 17 ∨ j = 18)) ∨ t = 2 ∨ t = 90 ∨ (t = 76 ∧ j = 13) ∨ t = 101 ∨ t = 99
theorem CS1_k {T H : tT} {q : Nat → Int32} {f : Int32 × Int32} {d : Nat} {i : Nat × (Nat → Nat)} {σ s : fhM} (h : CS1 T H q f d i σ) (e : ∀ t j, kpD t j → s.1 t j = σ.1 t j) : CS1 T H q f d i s := by
  obtain ⟨⟨a1, a2⟩, ⟨b1, b2⟩, c, ⟨d1, d2⟩, e1, f1, f2⟩ := h
  exact ⟨⟨by rw [e 0 1 (by unfold kpD; omega)]; exact a1, fun j hj => by rw [e 2 j (by unfold kpD; omega)]; exact a2 j hj⟩, ⟨by rw [e 76 13 (by unfold kpD; omega)]; exact b1, fun k hk => by rw [e 90 k (by unfold kpD; omega)]; exact b2 k hk⟩, fun k hk => by rw [e 101 k (by unfold kpD; omega)]; exact c k hk, ⟨by rw [e 0 17 (by unfold kpD; omega)]; exact d1, by rw [e 0 18 (by unfold kpD; omega)]; exact d2⟩, by rw [e 0 16 (by unfold kpD; omega)]; exact e1, by rw [e 0 14 (by unfold kpD; omega)]; exact f1, fun j hj => by rw [e 99 j (by unfold kpD; omega)]; exact f2 j hj⟩
