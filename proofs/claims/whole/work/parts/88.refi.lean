/-! THE REFERENCE'S SUMS, in step with the grammar -/
def cx4 (wt : List Nat) (b : Nat) : Prop := (∀ u, wt.head? = some u → u ≠ 3 ∧ u ≠ 4) ∧ (wt.length = b ∨ ∃ u r, wt = u :: r ∧ u < 60) ∧ b ≤ wt.length
def cx3 (wt : List Nat) (b : Nat) : Prop := (∀ u, wt.head? = some u → u ≠ 3 ∧ u ≠ 4 ∧ u ≠ 1 ∧ u ≠ 2) ∧ (wt.length = b ∨ ∃ u r, wt = u :: r ∧ u < 60) ∧ b ≤ wt.length
theorem cx3_4 {wt : List Nat} {b : Nat} (h : cx3 wt b) : cx4 wt b := ⟨fun u hu => ⟨(h.1 u hu).1, (h.1 u hu).2.1⟩, h.2⟩
theorem cx3_c {u : Nat} {wt : List Nat} {b : Nat} (hb : b ≤ wt.length) (hu : u ≠ 3 ∧ u ≠ 4 ∧ u ≠ 1 ∧ u ≠ 2) (h6 : u < 60) : cx3 (u :: wt) b := ⟨fun x hx => by cases hx; exact hu, Or.inr ⟨u, wt, rfl, h6⟩, by rw [List.length_cons]; omega⟩
theorem cx4_c {u : Nat} {wt : List Nat} {b : Nat} (hb : b ≤ wt.length) (hu : u ≠ 3 ∧ u ≠ 4) (h6 : u < 60) : cx4 (u :: wt) b := ⟨fun x hx => by cases hx; exact hu, Or.inr ⟨u, wt, rfl, h6⟩, by rw [List.length_cons]; omega⟩
def o34 (pm : List Nat) : Prop := ∀ x ∈ pm, x = 3 ∨ x = 4
def o1234 (pn : List Nat) : Prop := ∀ x ∈ pn, x = 3 ∨ x = 4 ∨ x = 1 ∨ x = 2
theorem o_ops {pn : List Nat} (h : o1234 pn) : ∀ x ∈ pn, isBr x = false ∧ x ∈ rOps := by
  intro x hx
  rcases h x hx with rfl | rfl | rfl | rfl <;> exact ⟨rfl, by decide⟩
theorem o34_s {pm : List Nat} (h : o34 pm) : o1234 pm := fun x hx => (h x hx).elim (fun z => Or.inl z) (fun z => Or.inr (Or.inl z))
def RA5 (T : tT) (q : Bool) (nl : List (List Nat)) (n : Nat) : Prop := ∀ (o k : Nat) (r : (Nat × Nat) ⊕ (Nat × gC)), rd T q nl n 5 o k = some r → ∀ (out : gC) (wt : List Nat) (b : Nat) (v : Int32) (σ : fhM) (Q : fhM → Prop), rG T q nl o k out wt b σ → o ≤ 6 → b ≤ wt.length →
  (∀ e, r = .inl e → rQ σ Q e) → (∀ k' c, r = .inr (k', c) → ∀ s, rG T q nl o k' (out ++ c) wt b s → fr rD σ s → wq (kA v s) Q) → wq (k0 v σ) Q
def RA4 (T : tT) (q : Bool) (nl : List (List Nat)) (n : Nat) : Prop := ∀ (o k : Nat) (r : (Nat × Nat) ⊕ (Nat × gC)), rd T q nl n 4 o k = some r → ∀ (out : gC) (wt : List Nat) (b : Nat) (v : Int32) (σ : fhM) (Q : fhM → Prop), rG T q nl o k out wt b σ → o ≤ 6 → cx4 wt b →
  (∀ e, r = .inl e → rQ σ Q e) → (∀ k' c, r = .inr (k', c) → ∀ (out' : gC) (pm : List Nat) (s : fhM), o34 pm → out' ++ pm.map rDec = out ++ c → ¬ isg T k' 42 → ¬ isg T k' 47 → rG T q nl o k' out' (pm ++ wt) b s → fr rD σ s → wq (kG v s) Q) → wq (k0 v σ) Q
def RA9 (T : tT) (q : Bool) (nl : List (List Nat)) (n : Nat) : Prop := ∀ (o k : Nat) (r : (Nat × Nat) ⊕ (Nat × gC)), rd T q nl n 9 o k = some r → ∀ (out : gC) (pm wt : List Nat) (b : Nat) (v : Int32) (σ : fhM) (Q : fhM → Prop), o34 pm → rG T q nl o k out (pm ++ wt) b σ → o ≤ 6 → cx4 wt b →
  (∀ e, r = .inl e → rQ σ Q e) → (∀ k' c, r = .inr (k', c) → ∀ (out' : gC) (pm' : List Nat) (s : fhM), o34 pm' → out' ++ pm'.map rDec = out ++ pm.map rDec ++ c → ¬ isg T k' 42 → ¬ isg T k' 47 → rG T q nl o k' out' (pm' ++ wt) b s → fr rD σ s → wq (kG v s) Q) → wq (kG v σ) Q
def RA3 (T : tT) (q : Bool) (nl : List (List Nat)) (n : Nat) : Prop := ∀ (o k : Nat) (r : (Nat × Nat) ⊕ (Nat × gC)), rd T q nl n 3 o k = some r → ∀ (out : gC) (wt : List Nat) (b : Nat) (v : Int32) (σ : fhM) (Q : fhM → Prop), rG T q nl o k out wt b σ → o ≤ 6 → cx3 wt b →
  (∀ e, r = .inl e → rQ σ Q e) → (∀ k' c, r = .inr (k', c) → ∀ (out' : gC) (pn : List Nat) (s : fhM), o1234 pn → out' ++ pn.map rDec = out ++ c → nosg T k' → rG T q nl o k' out' (pn ++ wt) b s → fr rD σ s → wq (kG v s) Q) → wq (k0 v σ) Q
def RA8 (T : tT) (q : Bool) (nl : List (List Nat)) (n : Nat) : Prop := ∀ (o k : Nat) (r : (Nat × Nat) ⊕ (Nat × gC)), rd T q nl n 8 o k = some r → ∀ (out : gC) (pn wt : List Nat) (b : Nat) (v : Int32) (σ : fhM) (Q : fhM → Prop), o1234 pn → rG T q nl o k out (pn ++ wt) b σ → o ≤ 6 → cx3 wt b → ¬ isg T k 42 → ¬ isg T k 47 →
  (∀ e, r = .inl e → rQ σ Q e) → (∀ k' c, r = .inr (k', c) → ∀ (out' : gC) (pn' : List Nat) (s : fhM), o1234 pn' → out' ++ pn'.map rDec = out ++ pn.map rDec ++ c → nosg T k' → rG T q nl o k' out' (pn' ++ wt) b s → fr rD σ s → wq (kG v s) Q) → wq (kG v σ) Q
theorem rQ_tr {σ s : fhM} {Q : fhM → Prop} {e : Nat × Nat} (h : rQ σ Q e) (hf : fr rD σ s) : rQ s Q e := fun x hx fx => h x hx (fr_tr hf fx)
section
variable {T : tT} {q : Bool} {nl : List (List Nat)} {n : Nat}
theorem RA9_s (hT : tOK T) (h5 : RA5 T q nl n) (h9 : RA9 T q nl n) : RA9 T q nl (n + 1) := by
  intro o k r hr out pm wt b v σ Q hpm h ho hc hQ go
  have hr : gif (isg T k 42) _ _ = some r := hr
  -- an operator, a part, and on
  have more : ∀ (op u : Nat), (op = 6 ∧ u = 3 ∧ isg T k 42) ∨ (op = 7 ∧ u = 4 ∧ isg T k 47) → sq (rd T q nl n 5 o (k + 1)) (fun k => sq (gok k [(op, 0)]) (fun k => rd T q nl n 9 o k)) = some r → wq (kG v σ) Q := by
    intro op u hou hr
    have hud : rDec u = (op, 0) := by rcases hou with ⟨rfl, rfl, -⟩ | ⟨rfl, rfl, -⟩ <;> rfl
    have hu34 : u = 3 ∨ u = 4 := by rcases hou with ⟨-, z, -⟩ | ⟨-, z, -⟩ <;> omega
    have hsg : isg T k 42 ∨ isg T k 47 := by rcases hou with ⟨-, -, z⟩ | ⟨-, -, z⟩; exact Or.inl z; exact Or.inr z
    refine kG_mul hT h hpm hc.1 hc.2.2 hsg (fun u2 s h42 h47 hs hf => ?_)
    have hu2 : u2 = u := by
      rcases hou with ⟨-, z, y⟩ | ⟨-, z, y⟩
      · rw [h42 y, z]
      · rw [h47 y, z]
    subst hu2
    have hu60 : u2 < 60 := by omega
    rcases sq_some hr with ⟨e, h1, rfl⟩ | ⟨j, c, h1, h2⟩
    · exact h5 o (k + 1) _ h1 _ _ b v s Q hs ho (by rw [List.length_cons]; have := hc.2.2; omega) (fun e2 he => by cases he; exact rQ_tr (hQ e rfl) hf) (fun k' c he => by cases he)
    · refine h5 o (k + 1) _ h1 _ _ b v s Q hs ho (by rw [List.length_cons]; have := hc.2.2; omega) (fun e2 he => by cases he) (fun k' c' he s2 hs2 hf2 => ?_)
      cases he
      refine kA_end hT hs2 (Or.inr ⟨u2, wt, rfl, hu60⟩) ?_
      have h3 : ∃ y, rd T q nl n 9 o j = some y ∧ ((∃ e, y = .inl e ∧ r = .inl e) ∨ ∃ k2 c2, y = .inr (k2, c2) ∧ r = .inr (k2, c ++ ([(op, 0)] ++ c2))) := by
        rcases h2 with ⟨e, h2, rfl⟩ | ⟨k2, c2, h2, rfl⟩
        · rcases sq_some h2 with ⟨e2, h3, e1⟩ | ⟨j2, c3, h3, h4⟩
          · cases h3
          · cases h3
            rcases h4 with ⟨e2, h4, e1⟩ | ⟨k3, c4, h4, e1⟩
            · cases e1; exact ⟨_, h4, Or.inl ⟨_, rfl, rfl⟩⟩
            · cases e1
        · rcases sq_some h2 with ⟨e2, h3, e1⟩ | ⟨j2, c3, h3, h4⟩
          · cases h3
          · cases h3
            rcases h4 with ⟨e2, h4, e1⟩ | ⟨k3, c4, h4, e1⟩
            · cases e1
            · cases e1; exact ⟨_, h4, Or.inr ⟨_, _, rfl, rfl⟩⟩
      obtain ⟨y, h3, h4⟩ := h3
      refine h9 o j y h3 _ [u2] wt b v s2 Q (fun x hx => by rw [List.mem_singleton] at hx; rw [hx]; exact hu34) hs2 ho hc (fun e he => ?_) (fun k' c' he out' pm' s3 hp' heq n42 n47 hs3 hf3 => ?_)
      · rcases h4 with ⟨e2, rfl, rfl⟩ | ⟨k2, c2, rfl, _⟩
        · cases he; exact rQ_tr (hQ e rfl) (fr_tr hf hf2)
        · cases he
      · rcases h4 with ⟨e2, rfl, _⟩ | ⟨k2, c2, rfl, rfl⟩
        · cases he
        · cases he
          refine go k' _ rfl out' pm' s3 hp' ?_ n42 n47 hs3 (fr_tr (fr_tr hf hf2) hf3)
          rw [heq, List.map_singleton, hud]
          simp only [List.append_assoc]
  rcases gif_some hr with ⟨q1, hr⟩ | ⟨q1, hr⟩
  · exact more 6 3 (Or.inl ⟨rfl, rfl, q1⟩) hr
  rcases gif_some hr with ⟨q2, hr⟩ | ⟨q2, hr⟩
  · exact more 7 4 (Or.inr ⟨rfl, rfl, q2⟩) hr
  · exact go k [] (gok_some hr) out pm σ hpm (by rw [List.append_nil]) q1 q2 h fr_rf
theorem RA4_s (hT : tOK T) (h5 : RA5 T q nl n) (h9 : RA9 T q nl n) : RA4 T q nl (n + 1) := by
  intro o k r hr out wt b v σ Q h ho hc hQ go
  have hr : sq (rd T q nl n 5 o k) (fun k => rd T q nl n 9 o k) = some r := hr
  rcases sq_some hr with ⟨e, h1, rfl⟩ | ⟨j, c, h1, h2⟩
  · exact h5 o k _ h1 _ _ b v σ Q h ho hc.2.2 (fun e2 he => by cases he; exact hQ e rfl) (fun k' c he => by cases he)
  · refine h5 o k _ h1 _ _ b v σ Q h ho hc.2.2 (fun e2 he => by cases he) (fun k' c' he s2 hs2 hf2 => ?_)
    cases he
    refine kA_end hT hs2 hc.2.1 ?_
    rcases h2 with ⟨e, h2, rfl⟩ | ⟨k2, c2, h2, rfl⟩
    · exact h9 o j _ h2 _ [] wt b v s2 Q (fun x hx => by cases hx) hs2 ho hc (fun e2 he => by cases he; exact rQ_tr (hQ e rfl) hf2) (fun k' c' he => by cases he)
    · refine h9 o j _ h2 _ [] wt b v s2 Q (fun x hx => by cases hx) hs2 ho hc (fun e2 he => by cases he) (fun k' c' he out' pm' s3 hp' heq n42 n47 hs3 hf3 => ?_)
      cases he
      refine go k2 _ rfl out' pm' s3 hp' ?_ n42 n47 hs3 (fr_tr hf2 hf3)
      rw [heq, List.map_nil, List.append_nil, List.append_assoc]
theorem RA8_s (hT : tOK T) (h4 : RA4 T q nl n) (h8 : RA8 T q nl n) : RA8 T q nl (n + 1) := by
  intro o k r hr out pn wt b v σ Q hpn h ho hc n42 n47 hQ go
  have hr : gif (isg T k 43) _ _ = some r := hr
  have more : ∀ (op u : Nat), (op = 4 ∧ u = 1 ∧ isg T k 43) ∨ (op = 5 ∧ u = 2 ∧ isg T k 45) → sq (rd T q nl n 4 o (k + 1)) (fun k => sq (gok k [(op, 0)]) (fun k => rd T q nl n 8 o k)) = some r → wq (kG v σ) Q := by
    intro op u hou hr
    have hud : rDec u = (op, 0) := by rcases hou with ⟨rfl, rfl, -⟩ | ⟨rfl, rfl, -⟩ <;> rfl
    have hu12 : u = 1 ∨ u = 2 := by rcases hou with ⟨-, z, -⟩ | ⟨-, z, -⟩ <;> omega
    have hsg : isg T k 43 ∨ isg T k 45 := by rcases hou with ⟨-, -, z⟩ | ⟨-, -, z⟩; exact Or.inl z; exact Or.inr z
    refine kG_add hT h hpn hc.1 hc.2.2 hsg (fun u2 s h42 h47 hs hf => ?_)
    have hu2 : u2 = u := by
      rcases hou with ⟨-, z, y⟩ | ⟨-, z, y⟩
      · rw [h42 y, z]
      · rw [h47 y, z]
    subst hu2
    have hcx : cx4 (u2 :: wt) b := cx4_c hc.2.2 (by omega) (by omega)
    rcases sq_some hr with ⟨e, h1, rfl⟩ | ⟨j, c, h1, h2⟩
    · exact h4 o (k + 1) _ h1 _ _ b v s Q hs ho hcx (fun e2 he => by cases he; exact rQ_tr (hQ e rfl) hf) (fun k' c he => by cases he)
    · refine h4 o (k + 1) _ h1 _ _ b v s Q hs ho hcx (fun e2 he => by cases he) (fun k' c' he out2 pm s2 hp2 heq2 m42 m47 hs2 hf2 => ?_)
      cases he
      have h3 : ∃ y, rd T q nl n 8 o j = some y ∧ ((∃ e, y = .inl e ∧ r = .inl e) ∨ ∃ k2 c2, y = .inr (k2, c2) ∧ r = .inr (k2, c ++ ([(op, 0)] ++ c2))) := by
        rcases h2 with ⟨e, h2, rfl⟩ | ⟨k2, c2, h2, rfl⟩
        · rcases sq_some h2 with ⟨e2, h3, e1⟩ | ⟨j2, c3, h3, h4⟩
          · cases h3
          · cases h3
            rcases h4 with ⟨e2, h4, e1⟩ | ⟨k3, c4, h4, e1⟩
            · cases e1; exact ⟨_, h4, Or.inl ⟨_, rfl, rfl⟩⟩
            · cases e1
        · rcases sq_some h2 with ⟨e2, h3, e1⟩ | ⟨j2, c3, h3, h4⟩
          · cases h3
          · cases h3
            rcases h4 with ⟨e2, h4, e1⟩ | ⟨k3, c4, h4, e1⟩
            · cases e1
            · cases e1; exact ⟨_, h4, Or.inr ⟨_, _, rfl, rfl⟩⟩
      obtain ⟨y, h3, h5⟩ := h3
      have hs2' : rG T q nl o j out2 ((pm ++ [u2]) ++ wt) b s2 := by rw [List.append_assoc]; exact hs2
      have hpu : o1234 (pm ++ [u2]) := by
        intro x hx
        rcases List.mem_append.mp hx with z | z
        · exact o34_s hp2 x z
        · rw [List.mem_singleton] at z; omega
      refine h8 o j y h3 _ (pm ++ [u2]) wt b v s2 Q hpu hs2' ho hc m42 m47 (fun e he => ?_) (fun k' c' he out' pm' s3 hp' heq hns hs3 hf3 => ?_)
      · rcases h5 with ⟨e2, rfl, rfl⟩ | ⟨k2, c2, rfl, _⟩
        · cases he; exact rQ_tr (hQ e rfl) (fr_tr hf hf2)
        · cases he
      · rcases h5 with ⟨e2, rfl, _⟩ | ⟨k2, c2, rfl, rfl⟩
        · cases he
        · cases he
          refine go k' _ rfl out' pm' s3 hp' ?_ hns hs3 (fr_tr (fr_tr hf hf2) hf3)
          rw [heq, List.map_append, List.map_singleton, hud, ← List.append_assoc out2, heq2]
          simp only [List.append_assoc]
  rcases gif_some hr with ⟨q1, hr⟩ | ⟨q1, hr⟩
  · exact more 4 1 (Or.inl ⟨rfl, rfl, q1⟩) hr
  rcases gif_some hr with ⟨q2, hr⟩ | ⟨q2, hr⟩
  · exact more 5 2 (Or.inr ⟨rfl, rfl, q2⟩) hr
  · exact go k [] (gok_some hr) out pn σ hpn (by rw [List.append_nil]) ⟨n42, n47, q1, q2⟩ h fr_rf
theorem RA3_s (hT : tOK T) (h4 : RA4 T q nl n) (h8 : RA8 T q nl n) : RA3 T q nl (n + 1) := by
  intro o k r hr out wt b v σ Q h ho hc hQ go
  have hr : sq (rd T q nl n 4 o k) (fun k => rd T q nl n 8 o k) = some r := hr
  rcases sq_some hr with ⟨e, h1, rfl⟩ | ⟨j, c, h1, h2⟩
  · exact h4 o k _ h1 _ _ b v σ Q h ho (cx3_4 hc) (fun e2 he => by cases he; exact hQ e rfl) (fun k' c he => by cases he)
  · refine h4 o k _ h1 _ _ b v σ Q h ho (cx3_4 hc) (fun e2 he => by cases he) (fun k' c' he out2 pm s2 hp2 heq2 m42 m47 hs2 hf2 => ?_)
    cases he
    rcases h2 with ⟨e, h2, rfl⟩ | ⟨k2, c2, h2, rfl⟩
    · exact h8 o j _ h2 _ pm wt b v s2 Q (o34_s hp2) hs2 ho hc m42 m47 (fun e2 he => by cases he; exact rQ_tr (hQ e rfl) hf2) (fun k' c' he => by cases he)
    · refine h8 o j _ h2 _ pm wt b v s2 Q (o34_s hp2) hs2 ho hc m42 m47 (fun e2 he => by cases he) (fun k' c' he out' pm' s3 hp' heq hns hs3 hf3 => ?_)
      cases he
      refine go k2 _ rfl out' pm' s3 hp' ?_ hns hs3 (fr_tr hf2 hf3)
      rw [heq, heq2, List.append_assoc]
theorem RA5_s (hT : tOK T) (h5 : RA5 T q nl n) (h3 : RA3 T q nl n) : RA5 T q nl (n + 1) := by
  intro o k r hr out wt b v σ Q h ho hb hQ go
  have hr : gif (kd T k = 2) _ _ = some r := hr
  by_cases q1 : kd T k = 2
  · rw [gif_t q1] at hr
    refine k0_atom hT h (fun z => by have := z.1; omega) ⟨fun z => by have := z.1; omega, fun z => by have := z.1; omega⟩ (by cases e : lkx q T k with
      | none => rfl
      | some i => have := lkx_k e; omega) ?_ ?_
    · rintro e (⟨-, z, rfl⟩ | ⟨z, -⟩)
      · rw [if_pos z] at hr
        exact hQ _ (gbad_some hr)
      · exact absurd q1 z
    · rintro c (⟨-, z, rfl⟩ | ⟨z, -⟩) s hs hf
      · rw [if_neg (by omega)] at hr
        exact go _ _ (gok_some hr) s hs hf
      · exact absurd q1 z
  rw [gif_f q1] at hr
  rcases gif_some hr with ⟨q2, hr⟩ | ⟨q2, hr⟩
  · refine k0_paren hT h ho q2 (fun h6 => ?_) (fun h6 s hs hf => ?_)
    · rw [if_pos h6] at hr
      exact hQ _ (gbad_some hr)
    · rw [if_neg (by omega)] at hr
      have hcx : cx3 (20 :: wt) b := cx3_c hb (by decide) (by decide)
      rcases sq_some hr with ⟨e, h1, rfl⟩ | ⟨j, c, h1, h2⟩
      · exact h3 (o + 1) (k + 1) _ h1 _ _ b v s Q hs (by omega) hcx (fun e2 he => by cases he; exact rQ_tr (hQ e rfl) hf) (fun k' c he => by cases he)
      · refine h3 (o + 1) (k + 1) _ h1 _ _ b v s Q hs (by omega) hcx (fun e2 he => by cases he) (fun k' c' he out2 pn s2 hp2 heq2 hns hs2 hf2 => ?_)
        cases he
        by_cases z : isg T j 41
        · refine kG_close hT hs2 (o_ops hp2) (Or.inl rfl) hb z (fun s3 hs3 hf3 => ?_)
          rw [if_pos rfl, List.append_nil, heq2] at hs3
          rcases h2 with ⟨e, h2, rfl⟩ | ⟨k2, c2, h2, rfl⟩
          · rcases sgn_some h2 with ⟨_, e3⟩ | ⟨y, e3⟩
            · cases e3
            · exact absurd z y
          · rcases sgn_some h2 with ⟨_, e3⟩ | ⟨y, e3⟩
            · cases e3
              exact go _ _ rfl s3 (by rw [List.append_nil]; exact hs3) (fr_tr (fr_tr hf hf2) hf3)
            · exact absurd z y
        · refine kG_open hT hs2 (o_ops hp2) (Or.inl rfl) hb hns z ?_
          rcases h2 with ⟨e, h2, rfl⟩ | ⟨k2, c2, h2, rfl⟩
          · rcases sgn_some h2 with ⟨y, e3⟩ | ⟨y, e3⟩
            · exact absurd y z
            · cases e3
              exact rQ_tr (hQ _ rfl) (fr_tr hf hf2)
          · rcases sgn_some h2 with ⟨y, e3⟩ | ⟨_, e3⟩
            · exact absurd y z
            · cases e3
  rcases gif_some hr with ⟨q3, hr⟩ | ⟨q3, hr⟩
  · refine k0_min hT h ho q3 (fun n40 => ?_) (fun h40 h6 => ?_) (fun h40 h6 u s hu1 hu2 hs hf => ?_)
    · rw [gif_f n40] at hr
      exact hQ _ (gbad_some hr)
    · rw [gif_t h40, if_pos h6] at hr
      exact hQ _ (gbad_some hr)
    · rw [gif_t h40, if_neg (by omega)] at hr
      have hu : u = 21 ∨ u = 22 := by
        by_cases z : isw T k 24
        · exact Or.inl (hu1 z)
        · exact Or.inr (hu2 z)
      have hop : (gif (isw T k 24) 8 9, 0) = ((if u + 2 = 23 then 8 else 9 : Nat), (0 : Nat)) := by
        by_cases z : isw T k 24
        · rw [gif_t z, hu1 z]; rfl
        · rw [gif_f z, hu2 z]; rfl
      rw [hop] at hr
      have hcx : cx3 (u :: wt) b := cx3_c hb (by omega) (by omega)
      rcases sq_some hr with ⟨e, h1, rfl⟩ | ⟨j, c, h1, h2⟩
      · exact h3 (o + 1) (k + 2) _ h1 _ _ b v s Q hs (by omega) hcx (fun e2 he => by cases he; exact rQ_tr (hQ e rfl) hf) (fun k' c he => by cases he)
      · refine h3 (o + 1) (k + 2) _ h1 _ _ b v s Q hs (by omega) hcx (fun e2 he => by cases he) (fun k' c' he out2 pn s2 hp2 heq2 hns hs2 hf2 => ?_)
        cases he
        refine kG_comma hT hs2 (o_ops hp2) hu hb hns (fun z => ?_) (fun z s3 hs3 hf3 => ?_)
        · have hsg : sgn T j 44 [] = some (.inl (1, fm T j)) := by unfold sgn; rw [if_neg z]; rfl
          rw [hsg, sq_bad] at h2
          rcases h2 with ⟨e, h2, rfl⟩ | ⟨k2, c2, h2, _⟩
          · cases h2
            exact rQ_tr (hQ _ rfl) (fr_tr hf hf2)
          · cases h2
        · have hsg : sgn T j 44 [] = some (.inr (j + 1, [])) := by unfold sgn; rw [if_pos z]; rfl
          rw [hsg] at h2
          rw [heq2] at hs3
          have h4 : ∃ y, sq (rd T q nl n 3 (o + 1) (j + 1)) (fun j => sgn T j 41 [((if u + 2 = 23 then 8 else 9 : Nat), (0 : Nat))]) = some y ∧ ((∃ e, y = .inl e ∧ r = .inl e) ∨ ∃ k2 c2, y = .inr (k2, c2) ∧ r = .inr (k2, c ++ c2)) := by
            rcases h2 with ⟨e, h2, h5⟩ | ⟨k2, c2, h2, h5⟩
            · rcases sq_some h2 with ⟨e4, h6, e5⟩ | ⟨j4, c4, h6, h7⟩
              · cases h6
              · cases h6
                rcases h7 with ⟨e6, h7, e8⟩ | ⟨k6, c6, h7, e8⟩
                · cases e8; exact ⟨_, h7, Or.inl ⟨_, rfl, h5⟩⟩
                · cases e8
            · rcases sq_some h2 with ⟨e4, h6, e5⟩ | ⟨j4, c4, h6, h7⟩
              · cases h6
              · cases h6
                rcases h7 with ⟨e6, h7, e8⟩ | ⟨k6, c6, h7, e8⟩
                · cases e8
                · cases e8; exact ⟨_, h7, Or.inr ⟨_, _, rfl, h5⟩⟩
          obtain ⟨y, h4, h5y⟩ := h4
          have hcx2 : cx3 ((u + 2) :: wt) b := cx3_c hb (by omega) (by omega)
          have hf4 := fr_tr (fr_tr hf hf2) hf3
          rcases sq_some h4 with ⟨e, h6, rfl⟩ | ⟨j6, c6, h6, h7⟩
          · refine h3 (o + 1) (j + 1) _ h6 _ _ b v s3 Q hs3 (by omega) hcx2 (fun e2 he => ?_) (fun k' c he => by cases he)
            cases he
            rcases h5y with ⟨e2, e3, rfl⟩ | ⟨k2, c2, e3, _⟩
            · cases e3
              exact rQ_tr (hQ _ rfl) hf4
            · cases e3
          · refine h3 (o + 1) (j + 1) _ h6 _ _ b v s3 Q hs3 (by omega) hcx2 (fun e2 he => by cases he) (fun k' c' he out5 pn5 s5 hp5 heq5 hns5 hs5 hf5 => ?_)
            cases he
            by_cases z2 : isg T j6 41
            · refine kG_close hT hs5 (o_ops hp5) (by omega) hb z2 (fun s6 hs6 hf6 => ?_)
              rw [if_neg (show ¬ u + 2 = 20 by omega), heq5] at hs6
              have hy : y = .inr (j6 + 1, c6 ++ [((if u + 2 = 23 then 8 else 9 : Nat), (0 : Nat))]) := by
                rcases h7 with ⟨e, h7, rfl⟩ | ⟨k2, c2, h7, rfl⟩
                · rcases sgn_some h7 with ⟨_, e3⟩ | ⟨x, e3⟩
                  · cases e3
                  · exact absurd z2 x
                · rcases sgn_some h7 with ⟨_, e3⟩ | ⟨x, e3⟩
                  · cases e3; rfl
                  · exact absurd z2 x
              rcases h5y with ⟨e2, e3, _⟩ | ⟨k2, c2, e3, rfl⟩
              · rw [hy] at e3; cases e3
              · rw [hy] at e3
                cases e3
                refine go _ _ rfl s6 ?_ (fr_tr (fr_tr hf4 hf5) hf6)
                rw [← List.append_assoc, ← List.append_assoc]
                exact hs6
            · refine kG_open hT hs5 (o_ops hp5) (by omega) hb hns5 z2 ?_
              have hy : y = .inl (1, fm T j6) := by
                rcases h7 with ⟨e, h7, rfl⟩ | ⟨k2, c2, h7, rfl⟩
                · rcases sgn_some h7 with ⟨x, e3⟩ | ⟨x, e3⟩
                  · exact absurd x z2
                  · cases e3; rfl
                · rcases sgn_some h7 with ⟨x, e3⟩ | ⟨x, e3⟩
                  · exact absurd x z2
                  · cases e3
              rcases h5y with ⟨e2, e3, rfl⟩ | ⟨k2, c2, e3, _⟩
              · rw [hy] at e3
                cases e3
                exact rQ_tr (hQ _ rfl) (fr_tr hf4 hf5)
              · rw [hy] at e3; cases e3
  cases hlk : lkx q T k with
  | some bb =>
    rw [hlk] at hr
    dsimp only at hr
    -- which word
    have hwi : ∃ i, lki q T k = some i ∧ wxi T k = some i ∧ 9 ≤ i ∧ i < 12 ∧ rDec (60 + (i - 9)) = (2, bb) ∧ 60 + (i - 9) ∈ rOps := by
      have e := lki_eq (q := q) (T := T) (k := k)
      have hk := lkx_k hlk
      unfold lki at e
      rw [hlk] at e
      have hbb : bb = 15 ∨ bb = 20 ∨ bb = 25 := by
        unfold lkx at hlk
        rw [if_pos hk] at hlk
        cases q with
        | true =>
          have hlk : (if ow (lt T k) = 18 then some 20 else if ow (lt T k) = 19 then some 25 else none) = some bb := hlk
          split at hlk
          · cases hlk; omega
          · split at hlk
            · cases hlk; omega
            · cases hlk
        | false =>
          have hlk : (if ow (lt T k) = 12 then some 15 else none) = some bb := hlk
          split at hlk
          · cases hlk; omega
          · cases hlk
      unfold lki
      rw [hlk]
      rcases hbb with rfl | rfl | rfl
      · exact ⟨9, rfl, (Option.filter_eq_some_iff.mp e).1, by decide, by decide, rfl, by decide⟩
      · exact ⟨10, rfl, (Option.filter_eq_some_iff.mp e).1, by decide, by decide, rfl, by decide⟩
      · exact ⟨11, rfl, (Option.filter_eq_some_iff.mp e).1, by decide, by decide, rfl, by decide⟩
    obtain ⟨i, hi1, hi2, hi3, hi4, hi5, hi6⟩ := hwi
    refine k0_lk hT h ho hi1 hi2 hi3 ⟨fun z => q3 (Or.inl z), fun z => q3 (Or.inr z)⟩ (fun h6 => ?_) (fun h6 s hs hf => ?_)
    · rw [if_pos h6] at hr
      exact hQ _ (gbad_some hr)
    · rw [if_neg (by omega)] at hr
      rcases sq_some hr with ⟨e, h1, rfl⟩ | ⟨j, c, h1, h2⟩
      · exact h5 (o + 1) (k + 1) _ h1 _ _ b v s Q hs (by omega) (by rw [List.length_cons]; omega) (fun e2 he => by cases he; exact rQ_tr (hQ e rfl) hf) (fun k' c he => by cases he)
      · refine h5 (o + 1) (k + 1) _ h1 _ _ b v s Q hs (by omega) (by rw [List.length_cons]; omega) (fun e2 he => by cases he) (fun k' c' he s2 hs2 hf2 => ?_)
        cases he
        refine kA_of hT hs2 hb (by omega) hi6 (fun s3 hs3 hf3 => ?_)
        rw [hi5] at hs3
        rcases h2 with ⟨e, h2, rfl⟩ | ⟨k2, c2, h2, rfl⟩
        · cases h2
        · cases h2
          exact go _ _ rfl s3 (by rw [← List.append_assoc]; exact hs3) (fr_tr (fr_tr hf hf2) hf3)
  | none =>
    rw [hlk] at hr
    dsimp only at hr
    refine k0_atom hT h q2 ⟨fun z => q3 (Or.inl z), fun z => q3 (Or.inr z)⟩ hlk ?_ ?_
    · rintro e (⟨z, -⟩ | ⟨-, z, rfl⟩)
      · exact absurd z q1
      · rw [z] at hr
        exact hQ _ (gbad_some hr)
    · rintro c (⟨z, -⟩ | ⟨-, i, z, rfl⟩) s hs hf
      · exact absurd z q1
      · rw [z] at hr
        exact go _ _ (gok_some hr) s hs hf
theorem RA_all (hT : tOK T) : ∀ n, RA5 T q nl n ∧ RA4 T q nl n ∧ RA9 T q nl n ∧ RA3 T q nl n ∧ RA8 T q nl n := by
  intro n
  induction n with
  | zero => exact ⟨fun o k r hr => (by cases hr), fun o k r hr => (by cases hr), fun o k r hr => (by cases hr), fun o k r hr => (by cases hr), fun o k r hr => (by cases hr)⟩
  | succ n ih =>
    obtain ⟨h5, h4, h9, h3, h8⟩ := ih
    exact ⟨RA5_s hT h5 h3, RA4_s hT h5 h9, RA9_s hT h5 h9, RA3_s hT h4 h8, RA8_s hT h4 h8⟩
/-- a SUM, whole -/
theorem r_sums (hT : tOK T) {o k : Nat} {r : (Nat × Nat) ⊕ (Nat × gC)} (hr : rd T q nl n 3 o k = some r) {out : gC} {wt : List Nat} {b' : Nat} {σ : fhM} (h : rG T q nl o k out wt b' σ) (ho : o ≤ 6) (hwt : ∀ u, wt.head? = some u → u ≠ 3 ∧ u ≠ 4 ∧ u ≠ 1 ∧ u ≠ 2) :
    wq (f_X12_qSums σ) (fun s => (match r with
      | .inl e => rF e s
      | .inr x => rG T q nl o x.1 (out ++ x.2) wt b' s) ∧ fr rD σ s) := by
  have hb' := h.2.2.2.2.2.2.2.2.1
  obtain ⟨a, f⟩ := r_base h wt.length (Nat.le_refl _)
  unfold f_X12_qSums
  rw [h.2.2.2.2.2.2.2.1, h.2.2.2.2.1.1]
  refine kLS_1 (rG_bad a) ?_
  refine (RA_all hT n).2.2.2.1 o k r hr out wt wt.length (nI b') _ _ a ho ⟨hwt, Or.inl rfl, Nat.le_refl _⟩ (fun e he => ?_) (fun k' c he out' pn s hp heq hns hs hf => ?_)
  · subst he
    exact fun s hs hf => ⟨hs, fr_tr f hf⟩
  · subst he
    refine kG_end hT hs (o_ops hp) rfl hb' hns (fun s2 hs2 hf2 => ⟨?_, fr_tr (fr_tr f hf) hf2⟩)
    rw [heq] at hs2
    exact hs2
end
