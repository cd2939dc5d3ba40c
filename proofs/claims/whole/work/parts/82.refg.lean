/-! THE REFERENCE'S GRAMMAR: its codes, what waits, its words -/
theorem fN1 {x : fhM} : ¬ (false, x).1 = true := fun h => (by cases h)
def rEnc (c : Nat × Nat) : Nat := match c.1 with
  | 0 => 1000 + c.2
  | 1 => if c.2 < 5 then 52 + c.2 else if c.2 < 9 then 35 + c.2 else 34 + c.2
  | 2 => if c.2 = 15 then 60 else if c.2 = 20 then 61 else 62
  | 3 => 12
  | 4 => 1
  | 5 => 2
  | 6 => 3
  | 7 => 4
  | 8 => 5
  | 9 => 6
  | 10 => 7
  | 11 => 8
  | 12 => 9
  | 13 => 10
  | 14 => 11
  | _ => 13
/-- the codes -/
def rS (out : gC) (σ : fhM) : Prop := σ.1 0 99 = nI out.length ∧ ∀ i c, out[i]? = some c → σ.1 76 i = nI (rEnc c)
/-- what waits, the last first -/
def rWc : List Nat → fhM → Prop
  | [], _ => True
  | v :: r, σ => σ.1 77 r.length = nI v ∧ v < 100 ∧ rWc r σ
def rW (wt : List Nat) (σ : fhM) : Prop := σ.1 0 101 = nI wt.length ∧ rWc wt σ
/-- the names -/
def rN (nl : List (List Nat)) (σ : fhM) : Prop := σ.1 29 1 = nI nl.length ∧ nl.length ≤ 5 ∧ ∀ g l, nl[g]? = some l → (∀ c ∈ l, tS c = 1) ∧ l.length ≤ 6 ∧ l ≠ [] ∧ σ.2.1 30 g = lN (e27 l)
def rG (T : tT) (q : Bool) (nl : List (List Nat)) (o k : Nat) (out : gC) (wt : List Nat) (b : Nat) (σ : fhM) : Prop :=
  mP T k σ ∧ k ≤ T.2 ∧ mW σ ∧ rS out σ ∧ rW wt σ ∧ out.length + wt.length ≤ k ∧ σ.1 0 102 = nI o ∧ σ.1 0 103 = nI b ∧ b ≤ wt.length ∧ σ.1 0 48 = (if q = true then 1 else 0) ∧ (q = false → rN nl σ)
def rD (t j : Nat) : Prop := mD t j ∨ t = 76 ∨ t = 77 ∨ (t = 0 ∧ 99 ≤ j ∧ j ≤ 103)
theorem mD_r {t j : Nat} (h : mD t j) : rD t j := Or.inl h
theorem rS_fr {out : gC} {σ σ' : fhM} (h : rS out σ) (h1 : σ'.1 0 99 = σ.1 0 99) (h2 : ∀ i, σ'.1 76 i = σ.1 76 i) : rS out σ' := ⟨by rw [h1]; exact h.1, fun i c hi => by rw [h2]; exact h.2 i c hi⟩
theorem rWc_fr {σ σ' : fhM} : ∀ {wt : List Nat}, rWc wt σ → (∀ i, i < wt.length → σ'.1 77 i = σ.1 77 i) → rWc wt σ' := by
  intro wt
  induction wt with
  | nil => intro _ _; trivial
  | cons v r ih =>
    intro h hf
    obtain ⟨a, b, c⟩ := h
    exact ⟨by rw [hf _ (by rw [List.length_cons]; omega)]; exact a, b, ih c (fun i hi => hf i (by rw [List.length_cons]; omega))⟩
theorem rN_fr {nl : List (List Nat)} {σ σ' : fhM} (h : rN nl σ) (h1 : σ'.1 29 1 = σ.1 29 1) (h2 : σ'.2 = σ.2) : rN nl σ' := ⟨by rw [h1]; exact h.1, h.2.1, fun g l hg => by rw [h2]; exact h.2.2 g l hg⟩
/-- what reading changes leaves the rest -/
theorem rG_m {T : tT} {q : Bool} {nl : List (List Nat)} {o k k' : Nat} {out : gC} {wt : List Nat} {b : Nat} {σ σ' : fhM} (h : rG T q nl o k out wt b σ) (hp : mP T k' σ') (hk : k ≤ k') (hk' : k' ≤ T.2) (hf : fr mD σ σ') : rG T q nl o k' out wt b σ' := by
  obtain ⟨a1, a2, a3, a4, a5, a6, a7, a8, a9, a10, a11⟩ := h
  refine ⟨hp, hk', mW_m a3 hf, rS_fr a4 (hf.2 _ _ (by unfold mD; omega)) (fun i => hf.2 _ _ (by unfold mD; omega)), ⟨?_, rWc_fr a5.2 (fun i _ => hf.2 _ _ (by unfold mD; omega))⟩, by omega, ?_, ?_, a9, ?_, fun hq => rN_fr (a11 hq) (hf.2 _ _ (by unfold mD; omega)) hf.1⟩
  · rw [hf.2 _ _ (by unfold mD; omega)]; exact a5.1
  · rw [hf.2 _ _ (by unfold mD; omega)]; exact a7
  · rw [hf.2 _ _ (by unfold mD; omega)]; exact a8
  · rw [hf.2 _ _ (by unfold mD; omega)]; exact a10
theorem rG_bad {T : tT} {q : Bool} {nl : List (List Nat)} {o k : Nat} {out : gC} {wt : List Nat} {b : Nat} {σ : fhM} (h : rG T q nl o k out wt b σ) : σ.1 0 5 = 0 := h.1.2.2.1
/-- only what is coded, what waits, what is open changes -/
theorem rG_w {T : tT} {q : Bool} {nl : List (List Nat)} {o o' k : Nat} {out out' : gC} {wt wt' : List Nat} {b b' : Nat} {σ σ' : fhM} (h : rG T q nl o k out wt b σ) (hf : fr (fun t j => t = 76 ∨ t = 77 ∨ (t = 0 ∧ 99 ≤ j ∧ j ≤ 103)) σ σ') (h1 : rS out' σ') (h2 : rW wt' σ') (h3 : out'.length + wt'.length ≤ k) (h4 : σ'.1 0 102 = nI o') (h5 : σ'.1 0 103 = nI b') (h6 : b' ≤ wt'.length) : rG T q nl o' k out' wt' b' σ' := by
  obtain ⟨a1, a2, a3, a4, a5, a6, a7, a8, a9, a10, a11⟩ := h
  refine ⟨mP_fr a1 (fun i _ => hf.2 _ _ (by omega)) (hf.2 _ _ (by omega)) (hf.2 _ _ (by omega)) (hf.2 _ _ (by omega)) (hf.2 _ _ (by omega)) (hf.2 _ _ (by omega)), a2, mW_fr a3 (fun v i hv hi => ?_), h1, h2, h3, h4, h5, h6, ?_, fun hq => rN_fr (a11 hq) (hf.2 _ _ (by omega)) hf.1⟩
  · refine hf.2 _ _ (fun z => ?_)
    have : v = 76 ∨ v = 77 := by omega
    rcases this with rfl | rfl <;> exact Nat.not_lt_zero _ hi
  · rw [hf.2 _ _ (by omega)]; exact a10
theorem rfr {σ σ' : fhM} (h : fr (fun t j => t = 76 ∨ t = 77 ∨ (t = 0 ∧ 99 ≤ j ∧ j ≤ 103)) σ σ') : fr rD σ σ' := fr_mo h (fun _ _ z => Or.inr z)
theorem rS_add {out : gC} {σ : fhM} (h : rS out σ) (c : Nat × Nat) : rS (out ++ [c]) (fhI (fhI σ 76 out.length (nI (rEnc c))) 0 99 (nI (out.length + 1))) := by
  refine ⟨?_, fun i d hi => ?_⟩
  · rw [fhI_e, List.length_append, List.length_singleton]
  · rw [fhI_o (by omega)]
    rcases Nat.lt_or_ge i out.length with z | z
    · rw [List.getElem?_append_left z] at hi
      rw [fhI_s (by omega)]
      exact h.2 i d hi
    · rw [List.getElem?_append_right z] at hi
      have e : i - out.length = 0 := by
        cases y : i - out.length with
        | zero => rfl
        | succ n => rw [y] at hi; cases hi
      rw [e] at hi
      cases hi
      rw [show i = out.length by omega, fhI_e]
theorem r_code {T : tT} (hT : tOK T) {q : Bool} {nl : List (List Nat)} {o k : Nat} {out : gC} {wt : List Nat} {b : Nat} {σ : fhM} (h : rG T q nl o k out wt b σ) (c : Nat × Nat) (hl : out.length + 1 + wt.length ≤ k) : wq (f_X12_qCode (nI (rEnc c)) σ) (fun s => rG T q nl o k (out ++ [c]) wt b s ∧ fr rD σ s) := by
  have hT2 := hT.1
  have hk := h.2.1
  unfold f_X12_qCode
  rw [h.2.2.2.1.1, if_pos (ph_in1 (by omega) (by omega)), ph_ix (by omega), wq_some]
  have f : fr (fun t j => t = 76 ∨ t = 77 ∨ (t = 0 ∧ 99 ≤ j ∧ j ≤ 103)) σ (fhI (fhI σ 76 out.length (nI (rEnc c))) 0 99 (nI (out.length + 1))) := fr_I (fr_I fr_rf (Or.inl rfl)) (Or.inr (Or.inr ⟨rfl, by omega, by omega⟩))
  rw [nI_1]
  refine ⟨rG_w h f (rS_add h.2.2.2.1 c) ⟨?_, rWc_fr h.2.2.2.2.1.2 (fun i _ => by simp (disch := omega) only [fhI_e, fhI_o, fhI_s])⟩ (by rw [List.length_append, List.length_singleton]; omega) ?_ ?_ h.2.2.2.2.2.2.2.2.1, rfr f⟩
  · simp (disch := omega) only [fhI_e, fhI_o, fhI_s]; exact h.2.2.2.2.1.1
  · simp (disch := omega) only [fhI_e, fhI_o, fhI_s]; exact h.2.2.2.2.2.2.1
  · simp (disch := omega) only [fhI_e, fhI_o, fhI_s]; exact h.2.2.2.2.2.2.2.1
/-- pushed -/
theorem r_push {T : tT} {q : Bool} {nl : List (List Nat)} {o k : Nat} {out : gC} {wt : List Nat} {b : Nat} {σ : fhM} (h : rG T q nl o k out wt b σ) (v : Nat) (hv : v < 100) (hl : out.length + (wt.length + 1) ≤ k) : rG T q nl o k out (v :: wt) b (fhI (fhI σ 77 wt.length (nI v)) 0 101 (nI (wt.length + 1))) ∧ fr rD σ (fhI (fhI σ 77 wt.length (nI v)) 0 101 (nI (wt.length + 1))) := by
  have f : fr (fun t j => t = 76 ∨ t = 77 ∨ (t = 0 ∧ 99 ≤ j ∧ j ≤ 103)) σ (fhI (fhI σ 77 wt.length (nI v)) 0 101 (nI (wt.length + 1))) := fr_I (fr_I fr_rf (Or.inr (Or.inl rfl))) (Or.inr (Or.inr ⟨rfl, by omega, by omega⟩))
  have hb := h.2.2.2.2.2.2.2.2.1
  refine ⟨rG_w h f (rS_fr h.2.2.2.1 ?_ (fun i => ?_)) ⟨?_, ?_, hv, rWc_fr h.2.2.2.2.1.2 (fun i hi => ?_)⟩ (by rw [List.length_cons]; omega) ?_ ?_ (by rw [List.length_cons]; omega), rfr f⟩
  · simp (disch := omega) only [fhI_e, fhI_o, fhI_s]
  · simp (disch := omega) only [fhI_e, fhI_o, fhI_s]
  · simp (disch := omega) only [fhI_e, fhI_o, fhI_s]; rw [List.length_cons]
  · simp (disch := omega) only [fhI_e, fhI_o, fhI_s]
  · simp (disch := omega) only [fhI_e, fhI_o, fhI_s]
  · simp (disch := omega) only [fhI_e, fhI_o, fhI_s]; exact h.2.2.2.2.2.2.1
  · simp (disch := omega) only [fhI_e, fhI_o, fhI_s]; exact h.2.2.2.2.2.2.2.1
/-- popped -/
theorem r_pop {T : tT} {q : Bool} {nl : List (List Nat)} {o k : Nat} {out : gC} {v : Nat} {wt : List Nat} {b : Nat} {σ : fhM} (h : rG T q nl o k out (v :: wt) b σ) (hb : b ≤ wt.length) : rG T q nl o k out wt b (fhI σ 0 101 (nI wt.length)) ∧ fr rD σ (fhI σ 0 101 (nI wt.length)) := by
  have f : fr (fun t j => t = 76 ∨ t = 77 ∨ (t = 0 ∧ 99 ≤ j ∧ j ≤ 103)) σ (fhI σ 0 101 (nI wt.length)) := fr_I fr_rf (Or.inr (Or.inr ⟨rfl, by omega, by omega⟩))
  have hl := h.2.2.2.2.2.1
  rw [List.length_cons] at hl
  refine ⟨rG_w h f (rS_fr h.2.2.2.1 (by simp (disch := omega) only [fhI_e, fhI_o, fhI_s]) (fun i => by simp (disch := omega) only [fhI_e, fhI_o, fhI_s])) ⟨by simp (disch := omega) only [fhI_e, fhI_o, fhI_s], rWc_fr h.2.2.2.2.1.2.2.2 (fun i hi => by simp (disch := omega) only [fhI_e, fhI_o, fhI_s])⟩ (by omega) ?_ ?_ hb, rfr f⟩
  · simp (disch := omega) only [fhI_e, fhI_o, fhI_s]; exact h.2.2.2.2.2.2.1
  · simp (disch := omega) only [fhI_e, fhI_o, fhI_s]; exact h.2.2.2.2.2.2.2.1
theorem r_open {T : tT} {q : Bool} {nl : List (List Nat)} {o k : Nat} {out : gC} {wt : List Nat} {b : Nat} {σ : fhM} (h : rG T q nl o k out wt b σ) (o' : Nat) : rG T q nl o' k out wt b (fhI σ 0 102 (nI o')) ∧ fr rD σ (fhI σ 0 102 (nI o')) := by
  have f : fr (fun t j => t = 76 ∨ t = 77 ∨ (t = 0 ∧ 99 ≤ j ∧ j ≤ 103)) σ (fhI σ 0 102 (nI o')) := fr_I fr_rf (Or.inr (Or.inr ⟨rfl, by omega, by omega⟩))
  refine ⟨rG_w h f (rS_fr h.2.2.2.1 (by simp (disch := omega) only [fhI_e, fhI_o, fhI_s]) (fun i => by simp (disch := omega) only [fhI_e, fhI_o, fhI_s])) ⟨by simp (disch := omega) only [fhI_e, fhI_o, fhI_s]; exact h.2.2.2.2.1.1, rWc_fr h.2.2.2.2.1.2 (fun i hi => by simp (disch := omega) only [fhI_e, fhI_o, fhI_s])⟩ h.2.2.2.2.2.1 (by simp (disch := omega) only [fhI_e, fhI_o, fhI_s]) ?_ h.2.2.2.2.2.2.2.2.1, rfr f⟩
  simp (disch := omega) only [fhI_e, fhI_o, fhI_s]; exact h.2.2.2.2.2.2.2.1
theorem r_base {T : tT} {q : Bool} {nl : List (List Nat)} {o k : Nat} {out : gC} {wt : List Nat} {b : Nat} {σ : fhM} (h : rG T q nl o k out wt b σ) (b' : Nat) (hb : b' ≤ wt.length) : rG T q nl o k out wt b' (fhI σ 0 103 (nI b')) ∧ fr rD σ (fhI σ 0 103 (nI b')) := by
  have f : fr (fun t j => t = 76 ∨ t = 77 ∨ (t = 0 ∧ 99 ≤ j ∧ j ≤ 103)) σ (fhI σ 0 103 (nI b')) := fr_I fr_rf (Or.inr (Or.inr ⟨rfl, by omega, by omega⟩))
  refine ⟨rG_w h f (rS_fr h.2.2.2.1 (by simp (disch := omega) only [fhI_e, fhI_o, fhI_s]) (fun i => by simp (disch := omega) only [fhI_e, fhI_o, fhI_s])) ⟨by simp (disch := omega) only [fhI_e, fhI_o, fhI_s]; exact h.2.2.2.2.1.1, rWc_fr h.2.2.2.2.1.2 (fun i hi => by simp (disch := omega) only [fhI_e, fhI_o, fhI_s])⟩ h.2.2.2.2.2.1 ?_ (by simp (disch := omega) only [fhI_e, fhI_o, fhI_s]) hb, rfr f⟩
  simp (disch := omega) only [fhI_e, fhI_o, fhI_s]; exact h.2.2.2.2.2.2.1
/-- which step a waiting word is -/
def rDec (v : Nat) : Nat × Nat := match v with
  | 1 => (4, 0)
  | 2 => (5, 0)
  | 3 => (6, 0)
  | 4 => (7, 0)
  | 5 => (8, 0)
  | 6 => (9, 0)
  | 10 => (13, 0)
  | 11 => (14, 0)
  | 12 => (3, 0)
  | 60 => (2, 15)
  | 61 => (2, 20)
  | _ => (2, 25)
def rOps : List Nat := [1, 2, 3, 4, 5, 6, 10, 11, 12, 60, 61, 62]
theorem rED : ∀ v ∈ rOps, rEnc (rDec v) = v := by decide
theorem r_top {T : tT} (hT : tOK T) {q : Bool} {nl : List (List Nat)} {o k : Nat} {out : gC} {v : Nat} {wt : List Nat} {b : Nat} {σ : fhM} (h : rG T q nl o k out (v :: wt) b σ) : σ.1 0 101 - (1 : Int32) = nI wt.length ∧ wt.length < 1700 ∧ σ.1 77 wt.length = nI v ∧ v < 100 := by
  have hT2 := hT.1
  have hk := h.2.1
  have hl := h.2.2.2.2.2.1
  rw [List.length_cons] at hl
  refine ⟨?_, by omega, h.2.2.2.2.1.2.1, h.2.2.2.2.1.2.2.1⟩
  rw [h.2.2.2.2.1.1, List.length_cons]
  exact nI_pred _
theorem r_drop {T : tT} (hT : tOK T) {q : Bool} {nl : List (List Nat)} {o k : Nat} {out : gC} {v : Nat} {wt : List Nat} {b : Nat} {σ : fhM} (h : rG T q nl o k out (v :: wt) b σ) (hb : b ≤ wt.length) (hv : v ∈ rOps) : wq (f_X12_qDrops σ) (fun s => rG T q nl o k (out ++ [rDec v]) wt b s ∧ fr rD σ s) := by
  obtain ⟨e1, e2, e3, e4⟩ := r_top hT h
  have hl := h.2.2.2.2.2.1
  rw [List.length_cons] at hl
  unfold f_X12_qDrops
  rw [e1, if_pos (ph_in1 (by omega) e2), ph_ix (by omega), e3, wq_bind]
  obtain ⟨a, f⟩ := r_pop h hb
  have := r_code hT a (rDec v) (by omega)
  rw [rED v hv] at this
  exact wq_mono this (fun s p => by rw [wq_some]; exact ⟨p.1, fr_tr f p.2⟩)
/-- what is open comes on the row of what waits -/
theorem r_opens {T : tT} (hT : tOK T) {q : Bool} {nl : List (List Nat)} {o k p : Nat} {out : gC} {wt : List Nat} {b : Nat} {σ : fhM} (h : rG T q nl o k out wt b σ) (ho : o ≤ 6) (v : Nat) (hv : v < 100) (hkl : k < T.2) :
    (6 ≤ o → ∃ s, f_X12_qOpens (nI v) (nI p) σ = some s ∧ mF (4, p) s ∧ fr mD σ s) ∧
    (o < 6 → ∃ s, f_X12_qOpens (nI v) (nI p) σ = some s ∧ fr (fun t j => t = 77 ∨ (t = 0 ∧ (j = 101 ∨ j = 102))) σ s ∧ s.1 0 102 = nI (o + 1) ∧ rW (v :: wt) s) := by
  have hT2 := hT.1
  have hl := h.2.2.2.2.2.1
  unfold f_X12_qOpens
  rw [if_pos (rG_bad h), h.2.2.2.2.2.2.1]
  refine ⟨fun h6 => ?_, fun h6 => ?_⟩
  · rw [if_pos (show nI o = (6 : Int32) by rw [show o = 6 by omega]; rfl)]
    obtain ⟨a, f⟩ := m_fail (q := (4, p)) (rG_bad h)
    exact ⟨_, rfl, a, f⟩
  · rw [if_neg (show ¬ nI o = (6 : Int32) from fun z => by have := (nI_eq (b := 6) (by omega) (by decide)).mp z; omega), h.2.2.2.2.1.1, if_pos (ph_in1 (by omega) (by omega)), ph_ix (by omega), nI_1]
    rw [nI_1]
    refine ⟨_, rfl, fr_I (fr_I (fr_I fr_rf (Or.inr ⟨rfl, Or.inr rfl⟩)) (Or.inl rfl)) (Or.inr ⟨rfl, Or.inl rfl⟩), ?_, ?_, ?_, hv, ?_⟩
    · simp (disch := omega) only [fhI_e, fhI_o, fhI_s]
    · simp (disch := omega) only [fhI_e, fhI_o, fhI_s]; rw [List.length_cons]
    · simp (disch := omega) only [fhI_e, fhI_o, fhI_s]
    · exact rWc_fr h.2.2.2.2.1.2 (fun i hi => by simp (disch := omega) only [fhI_e, fhI_o, fhI_s])
theorem r_isOn {T : tT} (hT : tOK T) {q : Bool} {nl : List (List Nat)} {o k : Nat} {out : gC} {wt : List Nat} {b : Nat} {σ : fhM} (h : rG T q nl o k out wt b σ) (v : Nat) (hv : v < 100) : f_X12_qIsOn (nI v) σ = some (decide (wt.head? = some v)) := by
  have hT2 := hT.1
  have hk := h.2.1
  have hl := h.2.2.2.2.2.1
  unfold f_X12_qIsOn
  cases wt with
  | nil =>
    rw [h.2.2.2.2.1.1, if_pos (show nI ([] : List Nat).length ≤ 0 from Int32.le_refl _)]
    rfl
  | cons u r =>
    obtain ⟨e1, e2, e3, e4⟩ := r_top hT h
    rw [if_neg (show ¬ σ.1 0 101 ≤ 0 by rw [h.2.2.2.2.1.1]; exact nI_nle (by rw [List.length_cons]; omega) (by omega)), e1, if_pos (ph_in1 (by omega) e2), ph_ix (by omega), e3]
    by_cases z : u = v
    · rw [if_pos (by rw [z])]
      simp [z]
    · rw [if_neg (fun y => z ((nI_eq (by omega) (by omega)).mp y))]
      simp [z]
def isBr (v : Nat) : Bool := decide (20 ≤ v ∧ v ≤ 24)
theorem r_isBr {v : Nat} (hv : v < 100) (σ : fhM) : f_X12_qIsBracket (nI v) σ = isBr v := by
  unfold f_X12_qIsBracket isBr
  by_cases h1 : v < 20
  · rw [if_pos (show nI v < (20 : Int32) from nI_lt (b := 20) h1 (by decide)), decide_eq_false (by omega)]
  · rw [if_neg (show ¬ nI v < (20 : Int32) from nI_nlt (b := 20) (by omega) (by omega))]
    by_cases h2 : 24 < v
    · rw [if_pos (show (24 : Int32) < nI v from nI_lt (a := 24) h2 (by omega)), decide_eq_false (by omega)]
    · rw [if_neg (show ¬ (24 : Int32) < nI v from nI_nlt (a := 24) (by omega) (by decide)), decide_eq_true (by omega)]
/-- the last bracket above the base: m of what waits lie above it, none of them a bracket -/
theorem r_bracket {T : tT} (hT : tOK T) {q : Bool} {nl : List (List Nat)} {o k : Nat} {out : gC} {pn wt : List Nat} {v b : Nat} {σ : fhM} (h : rG T q nl o k out (pn ++ v :: wt) b σ) (hp : ∀ x ∈ pn, isBr x = false) (hv : isBr v = true) (hb : b ≤ wt.length) : f_X12_qBracket σ = some (nI v) := by
  have hT2 := hT.1
  have hk := h.2.1
  have hl := h.2.2.2.2.2.1
  rw [List.length_append, List.length_cons] at hl
  have hcell : ∀ (l : List Nat), rWc (l ++ v :: wt) σ → σ.1 77 wt.length = nI v ∧ v < 100 := by
    intro l
    induction l with
    | nil => intro z; exact ⟨z.1, z.2.1⟩
    | cons x r ih => intro z; exact ih z.2.2
  obtain ⟨c1, c2⟩ := hcell pn h.2.2.2.2.1.2
  have hb103 := h.2.2.2.2.2.2.2.1
  -- from a place with l above the bracket
  have key : ∀ (l : List Nat), (∀ x ∈ l, isBr x = false) → rWc (l ++ v :: wt) σ → l.length ≤ pn.length → fhlp (fun x => f_X12_qBracket_7 x σ) (nI (l.length + wt.length)) = some (nI v) := by
    intro l
    induction l with
    | nil =>
      intro _ _ _
      refine fhlp_e ?_
      (try dsimp only)
      rw [List.length_nil, Nat.zero_add]
      unfold f_X12_qBracket_7 f_X12_qBracket_33
      rw [hb103, if_neg (nI_nlt hb (by omega)), if_pos (ph_in1 (by omega) (by omega)), ph_ix (by omega), c1, r_isBr c2, hv, if_pos rfl, if_neg (nI_nlt hb (by omega)), if_pos (ph_in1 (by omega) (by omega))]
      rfl
    | cons x r ih =>
      intro hx hw hle
      obtain ⟨w1, w2, w3⟩ := hw
      rw [List.length_cons] at hle
      have hx0 := hx x List.mem_cons_self
      have e1 : (r ++ v :: wt).length = r.length + wt.length + 1 := by rw [List.length_append, List.length_cons]; omega
      have w1 : σ.1 77 (r ++ v :: wt).length = nI x := w1
      rw [e1] at w1
      have hs : f_X12_qBracket_7 (nI ((x :: r).length + wt.length)) σ = some (.inl (nI (r.length + wt.length))) := by
        rw [List.length_cons, show r.length + 1 + wt.length = r.length + wt.length + 1 by omega]
        unfold f_X12_qBracket_7
        rw [hb103, if_neg (nI_nlt (by omega) (by omega)), if_pos (ph_in1 (by omega) (by omega)), ph_ix (by omega), w1, r_isBr w2, hx0, if_neg (by decide), pk_m1]
      rw [fhlp_s hs]
      exact ih (fun y hy => hx y (List.mem_cons_of_mem _ hy)) w3 (by omega)
  unfold f_X12_qBracket
  have e : σ.1 0 101 - (1 : Int32) = nI (pn.length + wt.length) := by
    rw [h.2.2.2.2.1.1, List.length_append, List.length_cons]
    exact nI_pred _
  rw [e]
  exact key pn hp h.2.2.2.2.1.2 (Nat.le_refl _)
/-- none above the base -/
theorem r_brNone {T : tT} (hT : tOK T) {q : Bool} {nl : List (List Nat)} {o k : Nat} {out : gC} {pn wt : List Nat} {b : Nat} {σ : fhM} (h : rG T q nl o k out (pn ++ wt) b σ) (hp : ∀ x ∈ pn, isBr x = false) (hb : b = wt.length) : f_X12_qBracket σ = some (-1) := by
  have hT2 := hT.1
  have hk := h.2.1
  have hl := h.2.2.2.2.2.1
  rw [List.length_append] at hl
  have hb103 := h.2.2.2.2.2.2.2.1
  have key : ∀ (l : List Nat), (∀ x ∈ l, isBr x = false) → rWc (l ++ wt) σ → l.length ≤ pn.length → fhlp (fun x => f_X12_qBracket_7 x σ) (nI (l.length + wt.length) - 1) = some (-1) := by
    intro l
    induction l with
    | nil =>
      intro _ _ _
      refine fhlp_e ?_
      (try dsimp only)
      have hlt : nI (([] : List Nat).length + wt.length) - 1 < σ.1 0 103 := by
        rw [hb103, hb, List.length_nil, Nat.zero_add]
        cases e : wt.length with
        | zero => decide
        | succ n => rw [show nI (n + 1) - (1 : Int32) = nI n from nI_pred n]; exact nI_lt (by omega) (by omega)
      unfold f_X12_qBracket_7 f_X12_qBracket_33
      rw [if_pos hlt, if_pos hlt]
      rfl
    | cons x r ih =>
      intro hx hw hle
      obtain ⟨w1, w2, w3⟩ := hw
      rw [List.length_cons] at hle
      have hx0 := hx x List.mem_cons_self
      have w1 : σ.1 77 (r ++ wt).length = nI x := w1
      rw [List.length_append] at w1
      have hs : f_X12_qBracket_7 (nI ((x :: r).length + wt.length) - 1) σ = some (.inl (nI (r.length + wt.length) - 1)) := by
        rw [List.length_cons, show r.length + 1 + wt.length = r.length + wt.length + 1 by omega, show nI (r.length + wt.length + 1) - (1 : Int32) = nI (r.length + wt.length) from nI_pred _]
        unfold f_X12_qBracket_7
        rw [hb103, if_neg (nI_nlt (by omega) (by omega)), if_pos (ph_in1 (by omega) (by omega)), ph_ix (by omega), w1, r_isBr w2, hx0, if_neg (by decide), Int32.sub_eq_add_neg]
      rw [fhlp_s hs]
      exact ih (fun y hy => hx y (List.mem_cons_of_mem _ hy)) w3 (by omega)
  unfold f_X12_qBracket
  rw [h.2.2.2.2.1.1, List.length_append]
  exact key pn hp h.2.2.2.2.1.2 (Nat.le_refl _)
/-- all above a bracket are told -/
theorem r_dtb {T : tT} (hT : tOK T) {q : Bool} {nl : List (List Nat)} {o k : Nat} {v b : Nat} {wt : List Nat} (hv : isBr v = true) (hb : b ≤ wt.length) : ∀ (pn : List Nat) (out : gC) (σ : fhM), rG T q nl o k out (pn ++ v :: wt) b σ → (∀ x ∈ pn, isBr x = false ∧ x ∈ rOps) → wq (f_X12_qDropsToBracket σ) (fun s => rG T q nl o k (out ++ pn.map rDec) (v :: wt) b s ∧ fr rD σ s) := by
  intro pn
  have hT2 := hT.1
  induction pn with
  | nil =>
    intro out σ h _
    have hk := h.2.1
    have hl := h.2.2.2.2.2.1
    obtain ⟨e1, e2, e3, e4⟩ := r_top hT (wt := wt) (v := v) h
    rw [List.nil_append, List.length_cons] at hl
    unfold f_X12_qDropsToBracket
    refine ⟨σ, fhlp_e ?_, by rw [List.map_nil, List.append_nil]; exact h, fr_rf⟩
    (try dsimp only)
    unfold f_X12_qDropsToBracket_0
    rw [h.2.2.2.2.2.2.2.1, if_neg (show ¬ σ.1 0 101 ≤ nI b by rw [h.2.2.2.2.1.1]; exact nI_ge (by rw [List.nil_append, List.length_cons]; omega) (by rw [List.nil_append, List.length_cons]; omega)), e1, if_pos (ph_in1 (by omega) e2), ph_ix (by omega), e3, r_isBr e4, hv, if_pos rfl]
  | cons x r ih =>
    intro out σ h hx
    have hk := h.2.1
    have hl := h.2.2.2.2.2.1
    obtain ⟨x1, x2⟩ := hx x List.mem_cons_self
    have h : rG T q nl o k out (x :: (r ++ v :: wt)) b σ := h
    obtain ⟨e1, e2, e3, e4⟩ := r_top hT h
    rw [List.cons_append, List.length_cons, List.length_append, List.length_cons] at hl
    have hbl : b ≤ (r ++ v :: wt).length := by rw [List.length_append, List.length_cons]; omega
    unfold f_X12_qDropsToBracket
    refine wq_step ?_
    (try dsimp only)
    unfold f_X12_qDropsToBracket_0
    rw [h.2.2.2.2.2.2.2.1, if_neg (show ¬ σ.1 0 101 ≤ nI b by rw [h.2.2.2.2.1.1]; exact nI_ge (by rw [List.length_cons]; omega) (by rw [List.length_cons, List.length_append, List.length_cons]; omega)), e1, if_pos (ph_in1 (by omega) e2), ph_ix (by omega), e3, r_isBr e4, x1, if_neg (by decide), wq_bind]
    refine wq_mono (r_drop hT h hbl x2) (fun s p => ?_)
    rw [wq_some, fhK_l]
    refine wq_mono (ih (out ++ [rDec x]) s p.1 (fun y hy => hx y (List.mem_cons_of_mem _ hy))) (fun s2 p2 => ⟨?_, fr_tr p.2 p2.2⟩)
    have := p2.1
    rw [List.append_assoc] at this
    exact this
/-- a word by its number -/
theorem lw {T : tT} {k j : Nat} {w : List Nat} (hj : j < 32) (hw : wws[j]? = some w) : (kd T k = 1 ∧ lt T k = w) ↔ isw T k j := by
  unfold isw
  refine and_congr_right (fun _ => ?_)
  rw [ow_eq hj, hw]
  exact ⟨fun h => by rw [h], fun h => (Option.some.inj h).symm⟩
theorem r_is4 {T : tT} (hT : tOK T) {k : Nat} {σ : fhM} (h : mP T k σ) (hw : mW σ) : wq (f_X12_isHere 4 σ) (fun r => (r.1 = true ↔ isw T k 1) ∧ mA T k r.2 ∧ fr mD σ r.2) := by
  refine wq_mono (m_isHere hT h (mw4 hw)) (fun r p => ⟨?_, p.2⟩)
  rw [p.1, decide_eq_true_iff]
  exact lw (by decide) rfl
theorem r_as4 {T : tT} (hT : tOK T) {k : Nat} {σ : fhM} (h : mP T k σ) (hw : mW σ) : wq (f_X12_asks 4 σ) (fun s => (isw T k 1 → mP T (k + 1) s) ∧ (¬ isw T k 1 → mF (1, fm T k) s) ∧ fr mD σ s) := by
  refine wq_mono (m_asks hT h (mw4 hw)) (fun s p => ?_)
  by_cases z : isw T k 1
  · have := p.1
    rw [if_pos ((lw (by decide) rfl).mpr z)] at this
    exact ⟨fun _ => this, fun y => absurd z y, p.2⟩
  · have := p.1
    rw [if_neg (fun y => z ((lw (by decide) rfl).mp y))] at this
    exact ⟨fun y => absurd y z, fun _ => this, p.2⟩
theorem r_ta4 {T : tT} (hT : tOK T) {k : Nat} {σ : fhM} (h : mP T k σ) (hw : mW σ) : wq (f_X12_takes 4 σ) (fun r => (r.1 = true ↔ isw T k 1) ∧ (isw T k 1 → mP T (k + 1) r.2) ∧ (¬ isw T k 1 → mA T k r.2) ∧ fr mD σ r.2) := by
  refine wq_mono (m_takes hT h (mw4 hw)) (fun r p => ?_)
  have p2 := p.2.1
  refine ⟨by rw [p.1, decide_eq_true_iff]; exact lw (by decide) rfl, fun z => ?_, fun z => ?_, p.2.2⟩
  · rw [if_pos ((lw (by decide) rfl).mpr z)] at p2
    exact p2
  · rw [if_neg (fun y => z ((lw (by decide) rfl).mp y))] at p2
    exact p2
theorem r_is5 {T : tT} (hT : tOK T) {k : Nat} {σ : fhM} (h : mP T k σ) (hw : mW σ) : wq (f_X12_isHere 5 σ) (fun r => (r.1 = true ↔ isw T k 2) ∧ mA T k r.2 ∧ fr mD σ r.2) := by
  refine wq_mono (m_isHere hT h (mw5 hw)) (fun r p => ⟨?_, p.2⟩)
  rw [p.1, decide_eq_true_iff]
  exact lw (by decide) rfl
theorem r_as5 {T : tT} (hT : tOK T) {k : Nat} {σ : fhM} (h : mP T k σ) (hw : mW σ) : wq (f_X12_asks 5 σ) (fun s => (isw T k 2 → mP T (k + 1) s) ∧ (¬ isw T k 2 → mF (1, fm T k) s) ∧ fr mD σ s) := by
  refine wq_mono (m_asks hT h (mw5 hw)) (fun s p => ?_)
  by_cases z : isw T k 2
  · have := p.1
    rw [if_pos ((lw (by decide) rfl).mpr z)] at this
    exact ⟨fun _ => this, fun y => absurd z y, p.2⟩
  · have := p.1
    rw [if_neg (fun y => z ((lw (by decide) rfl).mp y))] at this
    exact ⟨fun y => absurd y z, fun _ => this, p.2⟩
theorem r_ta5 {T : tT} (hT : tOK T) {k : Nat} {σ : fhM} (h : mP T k σ) (hw : mW σ) : wq (f_X12_takes 5 σ) (fun r => (r.1 = true ↔ isw T k 2) ∧ (isw T k 2 → mP T (k + 1) r.2) ∧ (¬ isw T k 2 → mA T k r.2) ∧ fr mD σ r.2) := by
  refine wq_mono (m_takes hT h (mw5 hw)) (fun r p => ?_)
  have p2 := p.2.1
  refine ⟨by rw [p.1, decide_eq_true_iff]; exact lw (by decide) rfl, fun z => ?_, fun z => ?_, p.2.2⟩
  · rw [if_pos ((lw (by decide) rfl).mpr z)] at p2
    exact p2
  · rw [if_neg (fun y => z ((lw (by decide) rfl).mp y))] at p2
    exact p2
theorem r_is6 {T : tT} (hT : tOK T) {k : Nat} {σ : fhM} (h : mP T k σ) (hw : mW σ) : wq (f_X12_isHere 6 σ) (fun r => (r.1 = true ↔ isw T k 3) ∧ mA T k r.2 ∧ fr mD σ r.2) := by
  refine wq_mono (m_isHere hT h (mw6 hw)) (fun r p => ⟨?_, p.2⟩)
  rw [p.1, decide_eq_true_iff]
  exact lw (by decide) rfl
theorem r_as6 {T : tT} (hT : tOK T) {k : Nat} {σ : fhM} (h : mP T k σ) (hw : mW σ) : wq (f_X12_asks 6 σ) (fun s => (isw T k 3 → mP T (k + 1) s) ∧ (¬ isw T k 3 → mF (1, fm T k) s) ∧ fr mD σ s) := by
  refine wq_mono (m_asks hT h (mw6 hw)) (fun s p => ?_)
  by_cases z : isw T k 3
  · have := p.1
    rw [if_pos ((lw (by decide) rfl).mpr z)] at this
    exact ⟨fun _ => this, fun y => absurd z y, p.2⟩
  · have := p.1
    rw [if_neg (fun y => z ((lw (by decide) rfl).mp y))] at this
    exact ⟨fun y => absurd y z, fun _ => this, p.2⟩
theorem r_ta6 {T : tT} (hT : tOK T) {k : Nat} {σ : fhM} (h : mP T k σ) (hw : mW σ) : wq (f_X12_takes 6 σ) (fun r => (r.1 = true ↔ isw T k 3) ∧ (isw T k 3 → mP T (k + 1) r.2) ∧ (¬ isw T k 3 → mA T k r.2) ∧ fr mD σ r.2) := by
  refine wq_mono (m_takes hT h (mw6 hw)) (fun r p => ?_)
  have p2 := p.2.1
  refine ⟨by rw [p.1, decide_eq_true_iff]; exact lw (by decide) rfl, fun z => ?_, fun z => ?_, p.2.2⟩
  · rw [if_pos ((lw (by decide) rfl).mpr z)] at p2
    exact p2
  · rw [if_neg (fun y => z ((lw (by decide) rfl).mp y))] at p2
    exact p2
theorem r_is7 {T : tT} (hT : tOK T) {k : Nat} {σ : fhM} (h : mP T k σ) (hw : mW σ) : wq (f_X12_isHere 7 σ) (fun r => (r.1 = true ↔ isw T k 4) ∧ mA T k r.2 ∧ fr mD σ r.2) := by
  refine wq_mono (m_isHere hT h (mw7 hw)) (fun r p => ⟨?_, p.2⟩)
  rw [p.1, decide_eq_true_iff]
  exact lw (by decide) rfl
theorem r_as7 {T : tT} (hT : tOK T) {k : Nat} {σ : fhM} (h : mP T k σ) (hw : mW σ) : wq (f_X12_asks 7 σ) (fun s => (isw T k 4 → mP T (k + 1) s) ∧ (¬ isw T k 4 → mF (1, fm T k) s) ∧ fr mD σ s) := by
  refine wq_mono (m_asks hT h (mw7 hw)) (fun s p => ?_)
  by_cases z : isw T k 4
  · have := p.1
    rw [if_pos ((lw (by decide) rfl).mpr z)] at this
    exact ⟨fun _ => this, fun y => absurd z y, p.2⟩
  · have := p.1
    rw [if_neg (fun y => z ((lw (by decide) rfl).mp y))] at this
    exact ⟨fun y => absurd y z, fun _ => this, p.2⟩
theorem r_ta7 {T : tT} (hT : tOK T) {k : Nat} {σ : fhM} (h : mP T k σ) (hw : mW σ) : wq (f_X12_takes 7 σ) (fun r => (r.1 = true ↔ isw T k 4) ∧ (isw T k 4 → mP T (k + 1) r.2) ∧ (¬ isw T k 4 → mA T k r.2) ∧ fr mD σ r.2) := by
  refine wq_mono (m_takes hT h (mw7 hw)) (fun r p => ?_)
  have p2 := p.2.1
  refine ⟨by rw [p.1, decide_eq_true_iff]; exact lw (by decide) rfl, fun z => ?_, fun z => ?_, p.2.2⟩
  · rw [if_pos ((lw (by decide) rfl).mpr z)] at p2
    exact p2
  · rw [if_neg (fun y => z ((lw (by decide) rfl).mp y))] at p2
    exact p2
theorem r_is8 {T : tT} (hT : tOK T) {k : Nat} {σ : fhM} (h : mP T k σ) (hw : mW σ) : wq (f_X12_isHere 8 σ) (fun r => (r.1 = true ↔ isw T k 5) ∧ mA T k r.2 ∧ fr mD σ r.2) := by
  refine wq_mono (m_isHere hT h (mw8 hw)) (fun r p => ⟨?_, p.2⟩)
  rw [p.1, decide_eq_true_iff]
  exact lw (by decide) rfl
theorem r_as8 {T : tT} (hT : tOK T) {k : Nat} {σ : fhM} (h : mP T k σ) (hw : mW σ) : wq (f_X12_asks 8 σ) (fun s => (isw T k 5 → mP T (k + 1) s) ∧ (¬ isw T k 5 → mF (1, fm T k) s) ∧ fr mD σ s) := by
  refine wq_mono (m_asks hT h (mw8 hw)) (fun s p => ?_)
  by_cases z : isw T k 5
  · have := p.1
    rw [if_pos ((lw (by decide) rfl).mpr z)] at this
    exact ⟨fun _ => this, fun y => absurd z y, p.2⟩
  · have := p.1
    rw [if_neg (fun y => z ((lw (by decide) rfl).mp y))] at this
    exact ⟨fun y => absurd y z, fun _ => this, p.2⟩
theorem r_ta8 {T : tT} (hT : tOK T) {k : Nat} {σ : fhM} (h : mP T k σ) (hw : mW σ) : wq (f_X12_takes 8 σ) (fun r => (r.1 = true ↔ isw T k 5) ∧ (isw T k 5 → mP T (k + 1) r.2) ∧ (¬ isw T k 5 → mA T k r.2) ∧ fr mD σ r.2) := by
  refine wq_mono (m_takes hT h (mw8 hw)) (fun r p => ?_)
  have p2 := p.2.1
  refine ⟨by rw [p.1, decide_eq_true_iff]; exact lw (by decide) rfl, fun z => ?_, fun z => ?_, p.2.2⟩
  · rw [if_pos ((lw (by decide) rfl).mpr z)] at p2
    exact p2
  · rw [if_neg (fun y => z ((lw (by decide) rfl).mp y))] at p2
    exact p2
theorem r_is9 {T : tT} (hT : tOK T) {k : Nat} {σ : fhM} (h : mP T k σ) (hw : mW σ) : wq (f_X12_isHere 9 σ) (fun r => (r.1 = true ↔ isw T k 6) ∧ mA T k r.2 ∧ fr mD σ r.2) := by
  refine wq_mono (m_isHere hT h (mw9 hw)) (fun r p => ⟨?_, p.2⟩)
  rw [p.1, decide_eq_true_iff]
  exact lw (by decide) rfl
theorem r_as9 {T : tT} (hT : tOK T) {k : Nat} {σ : fhM} (h : mP T k σ) (hw : mW σ) : wq (f_X12_asks 9 σ) (fun s => (isw T k 6 → mP T (k + 1) s) ∧ (¬ isw T k 6 → mF (1, fm T k) s) ∧ fr mD σ s) := by
  refine wq_mono (m_asks hT h (mw9 hw)) (fun s p => ?_)
  by_cases z : isw T k 6
  · have := p.1
    rw [if_pos ((lw (by decide) rfl).mpr z)] at this
    exact ⟨fun _ => this, fun y => absurd z y, p.2⟩
  · have := p.1
    rw [if_neg (fun y => z ((lw (by decide) rfl).mp y))] at this
    exact ⟨fun y => absurd y z, fun _ => this, p.2⟩
theorem r_ta9 {T : tT} (hT : tOK T) {k : Nat} {σ : fhM} (h : mP T k σ) (hw : mW σ) : wq (f_X12_takes 9 σ) (fun r => (r.1 = true ↔ isw T k 6) ∧ (isw T k 6 → mP T (k + 1) r.2) ∧ (¬ isw T k 6 → mA T k r.2) ∧ fr mD σ r.2) := by
  refine wq_mono (m_takes hT h (mw9 hw)) (fun r p => ?_)
  have p2 := p.2.1
  refine ⟨by rw [p.1, decide_eq_true_iff]; exact lw (by decide) rfl, fun z => ?_, fun z => ?_, p.2.2⟩
  · rw [if_pos ((lw (by decide) rfl).mpr z)] at p2
    exact p2
  · rw [if_neg (fun y => z ((lw (by decide) rfl).mp y))] at p2
    exact p2
theorem r_is10 {T : tT} (hT : tOK T) {k : Nat} {σ : fhM} (h : mP T k σ) (hw : mW σ) : wq (f_X12_isHere 10 σ) (fun r => (r.1 = true ↔ isw T k 7) ∧ mA T k r.2 ∧ fr mD σ r.2) := by
  refine wq_mono (m_isHere hT h (mw10 hw)) (fun r p => ⟨?_, p.2⟩)
  rw [p.1, decide_eq_true_iff]
  exact lw (by decide) rfl
theorem r_as10 {T : tT} (hT : tOK T) {k : Nat} {σ : fhM} (h : mP T k σ) (hw : mW σ) : wq (f_X12_asks 10 σ) (fun s => (isw T k 7 → mP T (k + 1) s) ∧ (¬ isw T k 7 → mF (1, fm T k) s) ∧ fr mD σ s) := by
  refine wq_mono (m_asks hT h (mw10 hw)) (fun s p => ?_)
  by_cases z : isw T k 7
  · have := p.1
    rw [if_pos ((lw (by decide) rfl).mpr z)] at this
    exact ⟨fun _ => this, fun y => absurd z y, p.2⟩
  · have := p.1
    rw [if_neg (fun y => z ((lw (by decide) rfl).mp y))] at this
    exact ⟨fun y => absurd y z, fun _ => this, p.2⟩
theorem r_ta10 {T : tT} (hT : tOK T) {k : Nat} {σ : fhM} (h : mP T k σ) (hw : mW σ) : wq (f_X12_takes 10 σ) (fun r => (r.1 = true ↔ isw T k 7) ∧ (isw T k 7 → mP T (k + 1) r.2) ∧ (¬ isw T k 7 → mA T k r.2) ∧ fr mD σ r.2) := by
  refine wq_mono (m_takes hT h (mw10 hw)) (fun r p => ?_)
  have p2 := p.2.1
  refine ⟨by rw [p.1, decide_eq_true_iff]; exact lw (by decide) rfl, fun z => ?_, fun z => ?_, p.2.2⟩
  · rw [if_pos ((lw (by decide) rfl).mpr z)] at p2
    exact p2
  · rw [if_neg (fun y => z ((lw (by decide) rfl).mp y))] at p2
    exact p2
theorem r_is52 {T : tT} (hT : tOK T) {k : Nat} {σ : fhM} (h : mP T k σ) (hw : mW σ) : wq (f_X12_isHere 52 σ) (fun r => (r.1 = true ↔ isw T k 26) ∧ mA T k r.2 ∧ fr mD σ r.2) := by
  refine wq_mono (m_isHere hT h (mw52 hw)) (fun r p => ⟨?_, p.2⟩)
  rw [p.1, decide_eq_true_iff]
  exact lw (by decide) rfl
theorem r_as52 {T : tT} (hT : tOK T) {k : Nat} {σ : fhM} (h : mP T k σ) (hw : mW σ) : wq (f_X12_asks 52 σ) (fun s => (isw T k 26 → mP T (k + 1) s) ∧ (¬ isw T k 26 → mF (1, fm T k) s) ∧ fr mD σ s) := by
  refine wq_mono (m_asks hT h (mw52 hw)) (fun s p => ?_)
  by_cases z : isw T k 26
  · have := p.1
    rw [if_pos ((lw (by decide) rfl).mpr z)] at this
    exact ⟨fun _ => this, fun y => absurd z y, p.2⟩
  · have := p.1
    rw [if_neg (fun y => z ((lw (by decide) rfl).mp y))] at this
    exact ⟨fun y => absurd y z, fun _ => this, p.2⟩
theorem r_ta52 {T : tT} (hT : tOK T) {k : Nat} {σ : fhM} (h : mP T k σ) (hw : mW σ) : wq (f_X12_takes 52 σ) (fun r => (r.1 = true ↔ isw T k 26) ∧ (isw T k 26 → mP T (k + 1) r.2) ∧ (¬ isw T k 26 → mA T k r.2) ∧ fr mD σ r.2) := by
  refine wq_mono (m_takes hT h (mw52 hw)) (fun r p => ?_)
  have p2 := p.2.1
  refine ⟨by rw [p.1, decide_eq_true_iff]; exact lw (by decide) rfl, fun z => ?_, fun z => ?_, p.2.2⟩
  · rw [if_pos ((lw (by decide) rfl).mpr z)] at p2
    exact p2
  · rw [if_neg (fun y => z ((lw (by decide) rfl).mp y))] at p2
    exact p2
theorem r_is53 {T : tT} (hT : tOK T) {k : Nat} {σ : fhM} (h : mP T k σ) (hw : mW σ) : wq (f_X12_isHere 53 σ) (fun r => (r.1 = true ↔ isw T k 27) ∧ mA T k r.2 ∧ fr mD σ r.2) := by
  refine wq_mono (m_isHere hT h (mw53 hw)) (fun r p => ⟨?_, p.2⟩)
  rw [p.1, decide_eq_true_iff]
  exact lw (by decide) rfl
theorem r_as53 {T : tT} (hT : tOK T) {k : Nat} {σ : fhM} (h : mP T k σ) (hw : mW σ) : wq (f_X12_asks 53 σ) (fun s => (isw T k 27 → mP T (k + 1) s) ∧ (¬ isw T k 27 → mF (1, fm T k) s) ∧ fr mD σ s) := by
  refine wq_mono (m_asks hT h (mw53 hw)) (fun s p => ?_)
  by_cases z : isw T k 27
  · have := p.1
    rw [if_pos ((lw (by decide) rfl).mpr z)] at this
    exact ⟨fun _ => this, fun y => absurd z y, p.2⟩
  · have := p.1
    rw [if_neg (fun y => z ((lw (by decide) rfl).mp y))] at this
    exact ⟨fun y => absurd y z, fun _ => this, p.2⟩
theorem r_ta53 {T : tT} (hT : tOK T) {k : Nat} {σ : fhM} (h : mP T k σ) (hw : mW σ) : wq (f_X12_takes 53 σ) (fun r => (r.1 = true ↔ isw T k 27) ∧ (isw T k 27 → mP T (k + 1) r.2) ∧ (¬ isw T k 27 → mA T k r.2) ∧ fr mD σ r.2) := by
  refine wq_mono (m_takes hT h (mw53 hw)) (fun r p => ?_)
  have p2 := p.2.1
  refine ⟨by rw [p.1, decide_eq_true_iff]; exact lw (by decide) rfl, fun z => ?_, fun z => ?_, p.2.2⟩
  · rw [if_pos ((lw (by decide) rfl).mpr z)] at p2
    exact p2
  · rw [if_neg (fun y => z ((lw (by decide) rfl).mp y))] at p2
    exact p2
theorem r_is54 {T : tT} (hT : tOK T) {k : Nat} {σ : fhM} (h : mP T k σ) (hw : mW σ) : wq (f_X12_isHere 54 σ) (fun r => (r.1 = true ↔ isw T k 28) ∧ mA T k r.2 ∧ fr mD σ r.2) := by
  refine wq_mono (m_isHere hT h (mw54 hw)) (fun r p => ⟨?_, p.2⟩)
  rw [p.1, decide_eq_true_iff]
  exact lw (by decide) rfl
theorem r_as54 {T : tT} (hT : tOK T) {k : Nat} {σ : fhM} (h : mP T k σ) (hw : mW σ) : wq (f_X12_asks 54 σ) (fun s => (isw T k 28 → mP T (k + 1) s) ∧ (¬ isw T k 28 → mF (1, fm T k) s) ∧ fr mD σ s) := by
  refine wq_mono (m_asks hT h (mw54 hw)) (fun s p => ?_)
  by_cases z : isw T k 28
  · have := p.1
    rw [if_pos ((lw (by decide) rfl).mpr z)] at this
    exact ⟨fun _ => this, fun y => absurd z y, p.2⟩
  · have := p.1
    rw [if_neg (fun y => z ((lw (by decide) rfl).mp y))] at this
    exact ⟨fun y => absurd y z, fun _ => this, p.2⟩
theorem r_ta54 {T : tT} (hT : tOK T) {k : Nat} {σ : fhM} (h : mP T k σ) (hw : mW σ) : wq (f_X12_takes 54 σ) (fun r => (r.1 = true ↔ isw T k 28) ∧ (isw T k 28 → mP T (k + 1) r.2) ∧ (¬ isw T k 28 → mA T k r.2) ∧ fr mD σ r.2) := by
  refine wq_mono (m_takes hT h (mw54 hw)) (fun r p => ?_)
  have p2 := p.2.1
  refine ⟨by rw [p.1, decide_eq_true_iff]; exact lw (by decide) rfl, fun z => ?_, fun z => ?_, p.2.2⟩
  · rw [if_pos ((lw (by decide) rfl).mpr z)] at p2
    exact p2
  · rw [if_neg (fun y => z ((lw (by decide) rfl).mp y))] at p2
    exact p2
theorem r_is55 {T : tT} (hT : tOK T) {k : Nat} {σ : fhM} (h : mP T k σ) (hw : mW σ) : wq (f_X12_isHere 55 σ) (fun r => (r.1 = true ↔ isw T k 29) ∧ mA T k r.2 ∧ fr mD σ r.2) := by
  refine wq_mono (m_isHere hT h (mw55 hw)) (fun r p => ⟨?_, p.2⟩)
  rw [p.1, decide_eq_true_iff]
  exact lw (by decide) rfl
theorem r_as55 {T : tT} (hT : tOK T) {k : Nat} {σ : fhM} (h : mP T k σ) (hw : mW σ) : wq (f_X12_asks 55 σ) (fun s => (isw T k 29 → mP T (k + 1) s) ∧ (¬ isw T k 29 → mF (1, fm T k) s) ∧ fr mD σ s) := by
  refine wq_mono (m_asks hT h (mw55 hw)) (fun s p => ?_)
  by_cases z : isw T k 29
  · have := p.1
    rw [if_pos ((lw (by decide) rfl).mpr z)] at this
    exact ⟨fun _ => this, fun y => absurd z y, p.2⟩
  · have := p.1
    rw [if_neg (fun y => z ((lw (by decide) rfl).mp y))] at this
    exact ⟨fun y => absurd y z, fun _ => this, p.2⟩
theorem r_ta55 {T : tT} (hT : tOK T) {k : Nat} {σ : fhM} (h : mP T k σ) (hw : mW σ) : wq (f_X12_takes 55 σ) (fun r => (r.1 = true ↔ isw T k 29) ∧ (isw T k 29 → mP T (k + 1) r.2) ∧ (¬ isw T k 29 → mA T k r.2) ∧ fr mD σ r.2) := by
  refine wq_mono (m_takes hT h (mw55 hw)) (fun r p => ?_)
  have p2 := p.2.1
  refine ⟨by rw [p.1, decide_eq_true_iff]; exact lw (by decide) rfl, fun z => ?_, fun z => ?_, p.2.2⟩
  · rw [if_pos ((lw (by decide) rfl).mpr z)] at p2
    exact p2
  · rw [if_neg (fun y => z ((lw (by decide) rfl).mp y))] at p2
    exact p2
theorem r_is56 {T : tT} (hT : tOK T) {k : Nat} {σ : fhM} (h : mP T k σ) (hw : mW σ) : wq (f_X12_isHere 56 σ) (fun r => (r.1 = true ↔ isw T k 30) ∧ mA T k r.2 ∧ fr mD σ r.2) := by
  refine wq_mono (m_isHere hT h (mw56 hw)) (fun r p => ⟨?_, p.2⟩)
  rw [p.1, decide_eq_true_iff]
  exact lw (by decide) rfl
theorem r_as56 {T : tT} (hT : tOK T) {k : Nat} {σ : fhM} (h : mP T k σ) (hw : mW σ) : wq (f_X12_asks 56 σ) (fun s => (isw T k 30 → mP T (k + 1) s) ∧ (¬ isw T k 30 → mF (1, fm T k) s) ∧ fr mD σ s) := by
  refine wq_mono (m_asks hT h (mw56 hw)) (fun s p => ?_)
  by_cases z : isw T k 30
  · have := p.1
    rw [if_pos ((lw (by decide) rfl).mpr z)] at this
    exact ⟨fun _ => this, fun y => absurd z y, p.2⟩
  · have := p.1
    rw [if_neg (fun y => z ((lw (by decide) rfl).mp y))] at this
    exact ⟨fun y => absurd y z, fun _ => this, p.2⟩
theorem r_ta56 {T : tT} (hT : tOK T) {k : Nat} {σ : fhM} (h : mP T k σ) (hw : mW σ) : wq (f_X12_takes 56 σ) (fun r => (r.1 = true ↔ isw T k 30) ∧ (isw T k 30 → mP T (k + 1) r.2) ∧ (¬ isw T k 30 → mA T k r.2) ∧ fr mD σ r.2) := by
  refine wq_mono (m_takes hT h (mw56 hw)) (fun r p => ?_)
  have p2 := p.2.1
  refine ⟨by rw [p.1, decide_eq_true_iff]; exact lw (by decide) rfl, fun z => ?_, fun z => ?_, p.2.2⟩
  · rw [if_pos ((lw (by decide) rfl).mpr z)] at p2
    exact p2
  · rw [if_neg (fun y => z ((lw (by decide) rfl).mp y))] at p2
    exact p2
theorem r_is57 {T : tT} (hT : tOK T) {k : Nat} {σ : fhM} (h : mP T k σ) (hw : mW σ) : wq (f_X12_isHere 57 σ) (fun r => (r.1 = true ↔ isw T k 31) ∧ mA T k r.2 ∧ fr mD σ r.2) := by
  refine wq_mono (m_isHere hT h (mw57 hw)) (fun r p => ⟨?_, p.2⟩)
  rw [p.1, decide_eq_true_iff]
  exact lw (by decide) rfl
theorem r_as57 {T : tT} (hT : tOK T) {k : Nat} {σ : fhM} (h : mP T k σ) (hw : mW σ) : wq (f_X12_asks 57 σ) (fun s => (isw T k 31 → mP T (k + 1) s) ∧ (¬ isw T k 31 → mF (1, fm T k) s) ∧ fr mD σ s) := by
  refine wq_mono (m_asks hT h (mw57 hw)) (fun s p => ?_)
  by_cases z : isw T k 31
  · have := p.1
    rw [if_pos ((lw (by decide) rfl).mpr z)] at this
    exact ⟨fun _ => this, fun y => absurd z y, p.2⟩
  · have := p.1
    rw [if_neg (fun y => z ((lw (by decide) rfl).mp y))] at this
    exact ⟨fun y => absurd y z, fun _ => this, p.2⟩
theorem r_ta57 {T : tT} (hT : tOK T) {k : Nat} {σ : fhM} (h : mP T k σ) (hw : mW σ) : wq (f_X12_takes 57 σ) (fun r => (r.1 = true ↔ isw T k 31) ∧ (isw T k 31 → mP T (k + 1) r.2) ∧ (¬ isw T k 31 → mA T k r.2) ∧ fr mD σ r.2) := by
  refine wq_mono (m_takes hT h (mw57 hw)) (fun r p => ?_)
  have p2 := p.2.1
  refine ⟨by rw [p.1, decide_eq_true_iff]; exact lw (by decide) rfl, fun z => ?_, fun z => ?_, p.2.2⟩
  · rw [if_pos ((lw (by decide) rfl).mpr z)] at p2
    exact p2
  · rw [if_neg (fun y => z ((lw (by decide) rfl).mp y))] at p2
    exact p2
theorem r_is58 {T : tT} (hT : tOK T) {k : Nat} {σ : fhM} (h : mP T k σ) (hw : mW σ) : wq (f_X12_isHere 58 σ) (fun r => (r.1 = true ↔ isw T k 22) ∧ mA T k r.2 ∧ fr mD σ r.2) := by
  refine wq_mono (m_isHere hT h (mw58 hw)) (fun r p => ⟨?_, p.2⟩)
  rw [p.1, decide_eq_true_iff]
  exact lw (by decide) rfl
theorem r_as58 {T : tT} (hT : tOK T) {k : Nat} {σ : fhM} (h : mP T k σ) (hw : mW σ) : wq (f_X12_asks 58 σ) (fun s => (isw T k 22 → mP T (k + 1) s) ∧ (¬ isw T k 22 → mF (1, fm T k) s) ∧ fr mD σ s) := by
  refine wq_mono (m_asks hT h (mw58 hw)) (fun s p => ?_)
  by_cases z : isw T k 22
  · have := p.1
    rw [if_pos ((lw (by decide) rfl).mpr z)] at this
    exact ⟨fun _ => this, fun y => absurd z y, p.2⟩
  · have := p.1
    rw [if_neg (fun y => z ((lw (by decide) rfl).mp y))] at this
    exact ⟨fun y => absurd y z, fun _ => this, p.2⟩
theorem r_ta58 {T : tT} (hT : tOK T) {k : Nat} {σ : fhM} (h : mP T k σ) (hw : mW σ) : wq (f_X12_takes 58 σ) (fun r => (r.1 = true ↔ isw T k 22) ∧ (isw T k 22 → mP T (k + 1) r.2) ∧ (¬ isw T k 22 → mA T k r.2) ∧ fr mD σ r.2) := by
  refine wq_mono (m_takes hT h (mw58 hw)) (fun r p => ?_)
  have p2 := p.2.1
  refine ⟨by rw [p.1, decide_eq_true_iff]; exact lw (by decide) rfl, fun z => ?_, fun z => ?_, p.2.2⟩
  · rw [if_pos ((lw (by decide) rfl).mpr z)] at p2
    exact p2
  · rw [if_neg (fun y => z ((lw (by decide) rfl).mp y))] at p2
    exact p2
theorem r_is59 {T : tT} (hT : tOK T) {k : Nat} {σ : fhM} (h : mP T k σ) (hw : mW σ) : wq (f_X12_isHere 59 σ) (fun r => (r.1 = true ↔ isw T k 21) ∧ mA T k r.2 ∧ fr mD σ r.2) := by
  refine wq_mono (m_isHere hT h (mw59 hw)) (fun r p => ⟨?_, p.2⟩)
  rw [p.1, decide_eq_true_iff]
  exact lw (by decide) rfl
theorem r_as59 {T : tT} (hT : tOK T) {k : Nat} {σ : fhM} (h : mP T k σ) (hw : mW σ) : wq (f_X12_asks 59 σ) (fun s => (isw T k 21 → mP T (k + 1) s) ∧ (¬ isw T k 21 → mF (1, fm T k) s) ∧ fr mD σ s) := by
  refine wq_mono (m_asks hT h (mw59 hw)) (fun s p => ?_)
  by_cases z : isw T k 21
  · have := p.1
    rw [if_pos ((lw (by decide) rfl).mpr z)] at this
    exact ⟨fun _ => this, fun y => absurd z y, p.2⟩
  · have := p.1
    rw [if_neg (fun y => z ((lw (by decide) rfl).mp y))] at this
    exact ⟨fun y => absurd y z, fun _ => this, p.2⟩
theorem r_ta59 {T : tT} (hT : tOK T) {k : Nat} {σ : fhM} (h : mP T k σ) (hw : mW σ) : wq (f_X12_takes 59 σ) (fun r => (r.1 = true ↔ isw T k 21) ∧ (isw T k 21 → mP T (k + 1) r.2) ∧ (¬ isw T k 21 → mA T k r.2) ∧ fr mD σ r.2) := by
  refine wq_mono (m_takes hT h (mw59 hw)) (fun r p => ?_)
  have p2 := p.2.1
  refine ⟨by rw [p.1, decide_eq_true_iff]; exact lw (by decide) rfl, fun z => ?_, fun z => ?_, p.2.2⟩
  · rw [if_pos ((lw (by decide) rfl).mpr z)] at p2
    exact p2
  · rw [if_neg (fun y => z ((lw (by decide) rfl).mp y))] at p2
    exact p2
theorem r_is60 {T : tT} (hT : tOK T) {k : Nat} {σ : fhM} (h : mP T k σ) (hw : mW σ) : wq (f_X12_isHere 60 σ) (fun r => (r.1 = true ↔ isw T k 20) ∧ mA T k r.2 ∧ fr mD σ r.2) := by
  refine wq_mono (m_isHere hT h (mw60 hw)) (fun r p => ⟨?_, p.2⟩)
  rw [p.1, decide_eq_true_iff]
  exact lw (by decide) rfl
theorem r_as60 {T : tT} (hT : tOK T) {k : Nat} {σ : fhM} (h : mP T k σ) (hw : mW σ) : wq (f_X12_asks 60 σ) (fun s => (isw T k 20 → mP T (k + 1) s) ∧ (¬ isw T k 20 → mF (1, fm T k) s) ∧ fr mD σ s) := by
  refine wq_mono (m_asks hT h (mw60 hw)) (fun s p => ?_)
  by_cases z : isw T k 20
  · have := p.1
    rw [if_pos ((lw (by decide) rfl).mpr z)] at this
    exact ⟨fun _ => this, fun y => absurd z y, p.2⟩
  · have := p.1
    rw [if_neg (fun y => z ((lw (by decide) rfl).mp y))] at this
    exact ⟨fun y => absurd y z, fun _ => this, p.2⟩
theorem r_ta60 {T : tT} (hT : tOK T) {k : Nat} {σ : fhM} (h : mP T k σ) (hw : mW σ) : wq (f_X12_takes 60 σ) (fun r => (r.1 = true ↔ isw T k 20) ∧ (isw T k 20 → mP T (k + 1) r.2) ∧ (¬ isw T k 20 → mA T k r.2) ∧ fr mD σ r.2) := by
  refine wq_mono (m_takes hT h (mw60 hw)) (fun r p => ?_)
  have p2 := p.2.1
  refine ⟨by rw [p.1, decide_eq_true_iff]; exact lw (by decide) rfl, fun z => ?_, fun z => ?_, p.2.2⟩
  · rw [if_pos ((lw (by decide) rfl).mpr z)] at p2
    exact p2
  · rw [if_neg (fun y => z ((lw (by decide) rfl).mp y))] at p2
    exact p2
theorem r_is61 {T : tT} (hT : tOK T) {k : Nat} {σ : fhM} (h : mP T k σ) (hw : mW σ) : wq (f_X12_isHere 61 σ) (fun r => (r.1 = true ↔ isw T k 23) ∧ mA T k r.2 ∧ fr mD σ r.2) := by
  refine wq_mono (m_isHere hT h (mw61 hw)) (fun r p => ⟨?_, p.2⟩)
  rw [p.1, decide_eq_true_iff]
  exact lw (by decide) rfl
theorem r_as61 {T : tT} (hT : tOK T) {k : Nat} {σ : fhM} (h : mP T k σ) (hw : mW σ) : wq (f_X12_asks 61 σ) (fun s => (isw T k 23 → mP T (k + 1) s) ∧ (¬ isw T k 23 → mF (1, fm T k) s) ∧ fr mD σ s) := by
  refine wq_mono (m_asks hT h (mw61 hw)) (fun s p => ?_)
  by_cases z : isw T k 23
  · have := p.1
    rw [if_pos ((lw (by decide) rfl).mpr z)] at this
    exact ⟨fun _ => this, fun y => absurd z y, p.2⟩
  · have := p.1
    rw [if_neg (fun y => z ((lw (by decide) rfl).mp y))] at this
    exact ⟨fun y => absurd y z, fun _ => this, p.2⟩
theorem r_ta61 {T : tT} (hT : tOK T) {k : Nat} {σ : fhM} (h : mP T k σ) (hw : mW σ) : wq (f_X12_takes 61 σ) (fun r => (r.1 = true ↔ isw T k 23) ∧ (isw T k 23 → mP T (k + 1) r.2) ∧ (¬ isw T k 23 → mA T k r.2) ∧ fr mD σ r.2) := by
  refine wq_mono (m_takes hT h (mw61 hw)) (fun r p => ?_)
  have p2 := p.2.1
  refine ⟨by rw [p.1, decide_eq_true_iff]; exact lw (by decide) rfl, fun z => ?_, fun z => ?_, p.2.2⟩
  · rw [if_pos ((lw (by decide) rfl).mpr z)] at p2
    exact p2
  · rw [if_neg (fun y => z ((lw (by decide) rfl).mp y))] at p2
    exact p2
theorem r_is62 {T : tT} (hT : tOK T) {k : Nat} {σ : fhM} (h : mP T k σ) (hw : mW σ) : wq (f_X12_isHere 62 σ) (fun r => (r.1 = true ↔ isw T k 24) ∧ mA T k r.2 ∧ fr mD σ r.2) := by
  refine wq_mono (m_isHere hT h (mw62 hw)) (fun r p => ⟨?_, p.2⟩)
  rw [p.1, decide_eq_true_iff]
  exact lw (by decide) rfl
theorem r_as62 {T : tT} (hT : tOK T) {k : Nat} {σ : fhM} (h : mP T k σ) (hw : mW σ) : wq (f_X12_asks 62 σ) (fun s => (isw T k 24 → mP T (k + 1) s) ∧ (¬ isw T k 24 → mF (1, fm T k) s) ∧ fr mD σ s) := by
  refine wq_mono (m_asks hT h (mw62 hw)) (fun s p => ?_)
  by_cases z : isw T k 24
  · have := p.1
    rw [if_pos ((lw (by decide) rfl).mpr z)] at this
    exact ⟨fun _ => this, fun y => absurd z y, p.2⟩
  · have := p.1
    rw [if_neg (fun y => z ((lw (by decide) rfl).mp y))] at this
    exact ⟨fun y => absurd y z, fun _ => this, p.2⟩
theorem r_ta62 {T : tT} (hT : tOK T) {k : Nat} {σ : fhM} (h : mP T k σ) (hw : mW σ) : wq (f_X12_takes 62 σ) (fun r => (r.1 = true ↔ isw T k 24) ∧ (isw T k 24 → mP T (k + 1) r.2) ∧ (¬ isw T k 24 → mA T k r.2) ∧ fr mD σ r.2) := by
  refine wq_mono (m_takes hT h (mw62 hw)) (fun r p => ?_)
  have p2 := p.2.1
  refine ⟨by rw [p.1, decide_eq_true_iff]; exact lw (by decide) rfl, fun z => ?_, fun z => ?_, p.2.2⟩
  · rw [if_pos ((lw (by decide) rfl).mpr z)] at p2
    exact p2
  · rw [if_neg (fun y => z ((lw (by decide) rfl).mp y))] at p2
    exact p2
theorem r_is63 {T : tT} (hT : tOK T) {k : Nat} {σ : fhM} (h : mP T k σ) (hw : mW σ) : wq (f_X12_isHere 63 σ) (fun r => (r.1 = true ↔ isw T k 25) ∧ mA T k r.2 ∧ fr mD σ r.2) := by
  refine wq_mono (m_isHere hT h (mw63 hw)) (fun r p => ⟨?_, p.2⟩)
  rw [p.1, decide_eq_true_iff]
  exact lw (by decide) rfl
theorem r_as63 {T : tT} (hT : tOK T) {k : Nat} {σ : fhM} (h : mP T k σ) (hw : mW σ) : wq (f_X12_asks 63 σ) (fun s => (isw T k 25 → mP T (k + 1) s) ∧ (¬ isw T k 25 → mF (1, fm T k) s) ∧ fr mD σ s) := by
  refine wq_mono (m_asks hT h (mw63 hw)) (fun s p => ?_)
  by_cases z : isw T k 25
  · have := p.1
    rw [if_pos ((lw (by decide) rfl).mpr z)] at this
    exact ⟨fun _ => this, fun y => absurd z y, p.2⟩
  · have := p.1
    rw [if_neg (fun y => z ((lw (by decide) rfl).mp y))] at this
    exact ⟨fun y => absurd y z, fun _ => this, p.2⟩
theorem r_ta63 {T : tT} (hT : tOK T) {k : Nat} {σ : fhM} (h : mP T k σ) (hw : mW σ) : wq (f_X12_takes 63 σ) (fun r => (r.1 = true ↔ isw T k 25) ∧ (isw T k 25 → mP T (k + 1) r.2) ∧ (¬ isw T k 25 → mA T k r.2) ∧ fr mD σ r.2) := by
  refine wq_mono (m_takes hT h (mw63 hw)) (fun r p => ?_)
  have p2 := p.2.1
  refine ⟨by rw [p.1, decide_eq_true_iff]; exact lw (by decide) rfl, fun z => ?_, fun z => ?_, p.2.2⟩
  · rw [if_pos ((lw (by decide) rfl).mpr z)] at p2
    exact p2
  · rw [if_neg (fun y => z ((lw (by decide) rfl).mp y))] at p2
    exact p2
theorem r_is64 {T : tT} (hT : tOK T) {k : Nat} {σ : fhM} (h : mP T k σ) (hw : mW σ) : wq (f_X12_isHere 64 σ) (fun r => (r.1 = true ↔ isw T k 8) ∧ mA T k r.2 ∧ fr mD σ r.2) := by
  refine wq_mono (m_isHere hT h (mw64 hw)) (fun r p => ⟨?_, p.2⟩)
  rw [p.1, decide_eq_true_iff]
  exact lw (by decide) rfl
theorem r_as64 {T : tT} (hT : tOK T) {k : Nat} {σ : fhM} (h : mP T k σ) (hw : mW σ) : wq (f_X12_asks 64 σ) (fun s => (isw T k 8 → mP T (k + 1) s) ∧ (¬ isw T k 8 → mF (1, fm T k) s) ∧ fr mD σ s) := by
  refine wq_mono (m_asks hT h (mw64 hw)) (fun s p => ?_)
  by_cases z : isw T k 8
  · have := p.1
    rw [if_pos ((lw (by decide) rfl).mpr z)] at this
    exact ⟨fun _ => this, fun y => absurd z y, p.2⟩
  · have := p.1
    rw [if_neg (fun y => z ((lw (by decide) rfl).mp y))] at this
    exact ⟨fun y => absurd y z, fun _ => this, p.2⟩
theorem r_ta64 {T : tT} (hT : tOK T) {k : Nat} {σ : fhM} (h : mP T k σ) (hw : mW σ) : wq (f_X12_takes 64 σ) (fun r => (r.1 = true ↔ isw T k 8) ∧ (isw T k 8 → mP T (k + 1) r.2) ∧ (¬ isw T k 8 → mA T k r.2) ∧ fr mD σ r.2) := by
  refine wq_mono (m_takes hT h (mw64 hw)) (fun r p => ?_)
  have p2 := p.2.1
  refine ⟨by rw [p.1, decide_eq_true_iff]; exact lw (by decide) rfl, fun z => ?_, fun z => ?_, p.2.2⟩
  · rw [if_pos ((lw (by decide) rfl).mpr z)] at p2
    exact p2
  · rw [if_neg (fun y => z ((lw (by decide) rfl).mp y))] at p2
    exact p2
theorem r_is65 {T : tT} (hT : tOK T) {k : Nat} {σ : fhM} (h : mP T k σ) (hw : mW σ) : wq (f_X12_isHere 65 σ) (fun r => (r.1 = true ↔ isw T k 9) ∧ mA T k r.2 ∧ fr mD σ r.2) := by
  refine wq_mono (m_isHere hT h (mw65 hw)) (fun r p => ⟨?_, p.2⟩)
  rw [p.1, decide_eq_true_iff]
  exact lw (by decide) rfl
theorem r_as65 {T : tT} (hT : tOK T) {k : Nat} {σ : fhM} (h : mP T k σ) (hw : mW σ) : wq (f_X12_asks 65 σ) (fun s => (isw T k 9 → mP T (k + 1) s) ∧ (¬ isw T k 9 → mF (1, fm T k) s) ∧ fr mD σ s) := by
  refine wq_mono (m_asks hT h (mw65 hw)) (fun s p => ?_)
  by_cases z : isw T k 9
  · have := p.1
    rw [if_pos ((lw (by decide) rfl).mpr z)] at this
    exact ⟨fun _ => this, fun y => absurd z y, p.2⟩
  · have := p.1
    rw [if_neg (fun y => z ((lw (by decide) rfl).mp y))] at this
    exact ⟨fun y => absurd y z, fun _ => this, p.2⟩
theorem r_ta65 {T : tT} (hT : tOK T) {k : Nat} {σ : fhM} (h : mP T k σ) (hw : mW σ) : wq (f_X12_takes 65 σ) (fun r => (r.1 = true ↔ isw T k 9) ∧ (isw T k 9 → mP T (k + 1) r.2) ∧ (¬ isw T k 9 → mA T k r.2) ∧ fr mD σ r.2) := by
  refine wq_mono (m_takes hT h (mw65 hw)) (fun r p => ?_)
  have p2 := p.2.1
  refine ⟨by rw [p.1, decide_eq_true_iff]; exact lw (by decide) rfl, fun z => ?_, fun z => ?_, p.2.2⟩
  · rw [if_pos ((lw (by decide) rfl).mpr z)] at p2
    exact p2
  · rw [if_neg (fun y => z ((lw (by decide) rfl).mp y))] at p2
    exact p2
theorem r_is66 {T : tT} (hT : tOK T) {k : Nat} {σ : fhM} (h : mP T k σ) (hw : mW σ) : wq (f_X12_isHere 66 σ) (fun r => (r.1 = true ↔ isw T k 10) ∧ mA T k r.2 ∧ fr mD σ r.2) := by
  refine wq_mono (m_isHere hT h (mw66 hw)) (fun r p => ⟨?_, p.2⟩)
  rw [p.1, decide_eq_true_iff]
  exact lw (by decide) rfl
theorem r_as66 {T : tT} (hT : tOK T) {k : Nat} {σ : fhM} (h : mP T k σ) (hw : mW σ) : wq (f_X12_asks 66 σ) (fun s => (isw T k 10 → mP T (k + 1) s) ∧ (¬ isw T k 10 → mF (1, fm T k) s) ∧ fr mD σ s) := by
  refine wq_mono (m_asks hT h (mw66 hw)) (fun s p => ?_)
  by_cases z : isw T k 10
  · have := p.1
    rw [if_pos ((lw (by decide) rfl).mpr z)] at this
    exact ⟨fun _ => this, fun y => absurd z y, p.2⟩
  · have := p.1
    rw [if_neg (fun y => z ((lw (by decide) rfl).mp y))] at this
    exact ⟨fun y => absurd y z, fun _ => this, p.2⟩
theorem r_ta66 {T : tT} (hT : tOK T) {k : Nat} {σ : fhM} (h : mP T k σ) (hw : mW σ) : wq (f_X12_takes 66 σ) (fun r => (r.1 = true ↔ isw T k 10) ∧ (isw T k 10 → mP T (k + 1) r.2) ∧ (¬ isw T k 10 → mA T k r.2) ∧ fr mD σ r.2) := by
  refine wq_mono (m_takes hT h (mw66 hw)) (fun r p => ?_)
  have p2 := p.2.1
  refine ⟨by rw [p.1, decide_eq_true_iff]; exact lw (by decide) rfl, fun z => ?_, fun z => ?_, p.2.2⟩
  · rw [if_pos ((lw (by decide) rfl).mpr z)] at p2
    exact p2
  · rw [if_neg (fun y => z ((lw (by decide) rfl).mp y))] at p2
    exact p2
theorem r_is67 {T : tT} (hT : tOK T) {k : Nat} {σ : fhM} (h : mP T k σ) (hw : mW σ) : wq (f_X12_isHere 67 σ) (fun r => (r.1 = true ↔ isw T k 11) ∧ mA T k r.2 ∧ fr mD σ r.2) := by
  refine wq_mono (m_isHere hT h (mw67 hw)) (fun r p => ⟨?_, p.2⟩)
  rw [p.1, decide_eq_true_iff]
  exact lw (by decide) rfl
theorem r_as67 {T : tT} (hT : tOK T) {k : Nat} {σ : fhM} (h : mP T k σ) (hw : mW σ) : wq (f_X12_asks 67 σ) (fun s => (isw T k 11 → mP T (k + 1) s) ∧ (¬ isw T k 11 → mF (1, fm T k) s) ∧ fr mD σ s) := by
  refine wq_mono (m_asks hT h (mw67 hw)) (fun s p => ?_)
  by_cases z : isw T k 11
  · have := p.1
    rw [if_pos ((lw (by decide) rfl).mpr z)] at this
    exact ⟨fun _ => this, fun y => absurd z y, p.2⟩
  · have := p.1
    rw [if_neg (fun y => z ((lw (by decide) rfl).mp y))] at this
    exact ⟨fun y => absurd y z, fun _ => this, p.2⟩
theorem r_ta67 {T : tT} (hT : tOK T) {k : Nat} {σ : fhM} (h : mP T k σ) (hw : mW σ) : wq (f_X12_takes 67 σ) (fun r => (r.1 = true ↔ isw T k 11) ∧ (isw T k 11 → mP T (k + 1) r.2) ∧ (¬ isw T k 11 → mA T k r.2) ∧ fr mD σ r.2) := by
  refine wq_mono (m_takes hT h (mw67 hw)) (fun r p => ?_)
  have p2 := p.2.1
  refine ⟨by rw [p.1, decide_eq_true_iff]; exact lw (by decide) rfl, fun z => ?_, fun z => ?_, p.2.2⟩
  · rw [if_pos ((lw (by decide) rfl).mpr z)] at p2
    exact p2
  · rw [if_neg (fun y => z ((lw (by decide) rfl).mp y))] at p2
    exact p2
theorem r_is68 {T : tT} (hT : tOK T) {k : Nat} {σ : fhM} (h : mP T k σ) (hw : mW σ) : wq (f_X12_isHere 68 σ) (fun r => (r.1 = true ↔ isw T k 13) ∧ mA T k r.2 ∧ fr mD σ r.2) := by
  refine wq_mono (m_isHere hT h (mw68 hw)) (fun r p => ⟨?_, p.2⟩)
  rw [p.1, decide_eq_true_iff]
  exact lw (by decide) rfl
theorem r_as68 {T : tT} (hT : tOK T) {k : Nat} {σ : fhM} (h : mP T k σ) (hw : mW σ) : wq (f_X12_asks 68 σ) (fun s => (isw T k 13 → mP T (k + 1) s) ∧ (¬ isw T k 13 → mF (1, fm T k) s) ∧ fr mD σ s) := by
  refine wq_mono (m_asks hT h (mw68 hw)) (fun s p => ?_)
  by_cases z : isw T k 13
  · have := p.1
    rw [if_pos ((lw (by decide) rfl).mpr z)] at this
    exact ⟨fun _ => this, fun y => absurd z y, p.2⟩
  · have := p.1
    rw [if_neg (fun y => z ((lw (by decide) rfl).mp y))] at this
    exact ⟨fun y => absurd y z, fun _ => this, p.2⟩
theorem r_ta68 {T : tT} (hT : tOK T) {k : Nat} {σ : fhM} (h : mP T k σ) (hw : mW σ) : wq (f_X12_takes 68 σ) (fun r => (r.1 = true ↔ isw T k 13) ∧ (isw T k 13 → mP T (k + 1) r.2) ∧ (¬ isw T k 13 → mA T k r.2) ∧ fr mD σ r.2) := by
  refine wq_mono (m_takes hT h (mw68 hw)) (fun r p => ?_)
  have p2 := p.2.1
  refine ⟨by rw [p.1, decide_eq_true_iff]; exact lw (by decide) rfl, fun z => ?_, fun z => ?_, p.2.2⟩
  · rw [if_pos ((lw (by decide) rfl).mpr z)] at p2
    exact p2
  · rw [if_neg (fun y => z ((lw (by decide) rfl).mp y))] at p2
    exact p2
theorem r_is69 {T : tT} (hT : tOK T) {k : Nat} {σ : fhM} (h : mP T k σ) (hw : mW σ) : wq (f_X12_isHere 69 σ) (fun r => (r.1 = true ↔ isw T k 14) ∧ mA T k r.2 ∧ fr mD σ r.2) := by
  refine wq_mono (m_isHere hT h (mw69 hw)) (fun r p => ⟨?_, p.2⟩)
  rw [p.1, decide_eq_true_iff]
  exact lw (by decide) rfl
theorem r_as69 {T : tT} (hT : tOK T) {k : Nat} {σ : fhM} (h : mP T k σ) (hw : mW σ) : wq (f_X12_asks 69 σ) (fun s => (isw T k 14 → mP T (k + 1) s) ∧ (¬ isw T k 14 → mF (1, fm T k) s) ∧ fr mD σ s) := by
  refine wq_mono (m_asks hT h (mw69 hw)) (fun s p => ?_)
  by_cases z : isw T k 14
  · have := p.1
    rw [if_pos ((lw (by decide) rfl).mpr z)] at this
    exact ⟨fun _ => this, fun y => absurd z y, p.2⟩
  · have := p.1
    rw [if_neg (fun y => z ((lw (by decide) rfl).mp y))] at this
    exact ⟨fun y => absurd y z, fun _ => this, p.2⟩
theorem r_ta69 {T : tT} (hT : tOK T) {k : Nat} {σ : fhM} (h : mP T k σ) (hw : mW σ) : wq (f_X12_takes 69 σ) (fun r => (r.1 = true ↔ isw T k 14) ∧ (isw T k 14 → mP T (k + 1) r.2) ∧ (¬ isw T k 14 → mA T k r.2) ∧ fr mD σ r.2) := by
  refine wq_mono (m_takes hT h (mw69 hw)) (fun r p => ?_)
  have p2 := p.2.1
  refine ⟨by rw [p.1, decide_eq_true_iff]; exact lw (by decide) rfl, fun z => ?_, fun z => ?_, p.2.2⟩
  · rw [if_pos ((lw (by decide) rfl).mpr z)] at p2
    exact p2
  · rw [if_neg (fun y => z ((lw (by decide) rfl).mp y))] at p2
    exact p2
theorem r_is70 {T : tT} (hT : tOK T) {k : Nat} {σ : fhM} (h : mP T k σ) (hw : mW σ) : wq (f_X12_isHere 70 σ) (fun r => (r.1 = true ↔ isw T k 15) ∧ mA T k r.2 ∧ fr mD σ r.2) := by
  refine wq_mono (m_isHere hT h (mw70 hw)) (fun r p => ⟨?_, p.2⟩)
  rw [p.1, decide_eq_true_iff]
  exact lw (by decide) rfl
theorem r_as70 {T : tT} (hT : tOK T) {k : Nat} {σ : fhM} (h : mP T k σ) (hw : mW σ) : wq (f_X12_asks 70 σ) (fun s => (isw T k 15 → mP T (k + 1) s) ∧ (¬ isw T k 15 → mF (1, fm T k) s) ∧ fr mD σ s) := by
  refine wq_mono (m_asks hT h (mw70 hw)) (fun s p => ?_)
  by_cases z : isw T k 15
  · have := p.1
    rw [if_pos ((lw (by decide) rfl).mpr z)] at this
    exact ⟨fun _ => this, fun y => absurd z y, p.2⟩
  · have := p.1
    rw [if_neg (fun y => z ((lw (by decide) rfl).mp y))] at this
    exact ⟨fun y => absurd y z, fun _ => this, p.2⟩
theorem r_ta70 {T : tT} (hT : tOK T) {k : Nat} {σ : fhM} (h : mP T k σ) (hw : mW σ) : wq (f_X12_takes 70 σ) (fun r => (r.1 = true ↔ isw T k 15) ∧ (isw T k 15 → mP T (k + 1) r.2) ∧ (¬ isw T k 15 → mA T k r.2) ∧ fr mD σ r.2) := by
  refine wq_mono (m_takes hT h (mw70 hw)) (fun r p => ?_)
  have p2 := p.2.1
  refine ⟨by rw [p.1, decide_eq_true_iff]; exact lw (by decide) rfl, fun z => ?_, fun z => ?_, p.2.2⟩
  · rw [if_pos ((lw (by decide) rfl).mpr z)] at p2
    exact p2
  · rw [if_neg (fun y => z ((lw (by decide) rfl).mp y))] at p2
    exact p2
theorem r_is71 {T : tT} (hT : tOK T) {k : Nat} {σ : fhM} (h : mP T k σ) (hw : mW σ) : wq (f_X12_isHere 71 σ) (fun r => (r.1 = true ↔ isw T k 16) ∧ mA T k r.2 ∧ fr mD σ r.2) := by
  refine wq_mono (m_isHere hT h (mw71 hw)) (fun r p => ⟨?_, p.2⟩)
  rw [p.1, decide_eq_true_iff]
  exact lw (by decide) rfl
theorem r_as71 {T : tT} (hT : tOK T) {k : Nat} {σ : fhM} (h : mP T k σ) (hw : mW σ) : wq (f_X12_asks 71 σ) (fun s => (isw T k 16 → mP T (k + 1) s) ∧ (¬ isw T k 16 → mF (1, fm T k) s) ∧ fr mD σ s) := by
  refine wq_mono (m_asks hT h (mw71 hw)) (fun s p => ?_)
  by_cases z : isw T k 16
  · have := p.1
    rw [if_pos ((lw (by decide) rfl).mpr z)] at this
    exact ⟨fun _ => this, fun y => absurd z y, p.2⟩
  · have := p.1
    rw [if_neg (fun y => z ((lw (by decide) rfl).mp y))] at this
    exact ⟨fun y => absurd y z, fun _ => this, p.2⟩
theorem r_ta71 {T : tT} (hT : tOK T) {k : Nat} {σ : fhM} (h : mP T k σ) (hw : mW σ) : wq (f_X12_takes 71 σ) (fun r => (r.1 = true ↔ isw T k 16) ∧ (isw T k 16 → mP T (k + 1) r.2) ∧ (¬ isw T k 16 → mA T k r.2) ∧ fr mD σ r.2) := by
  refine wq_mono (m_takes hT h (mw71 hw)) (fun r p => ?_)
  have p2 := p.2.1
  refine ⟨by rw [p.1, decide_eq_true_iff]; exact lw (by decide) rfl, fun z => ?_, fun z => ?_, p.2.2⟩
  · rw [if_pos ((lw (by decide) rfl).mpr z)] at p2
    exact p2
  · rw [if_neg (fun y => z ((lw (by decide) rfl).mp y))] at p2
    exact p2
theorem r_is72 {T : tT} (hT : tOK T) {k : Nat} {σ : fhM} (h : mP T k σ) (hw : mW σ) : wq (f_X12_isHere 72 σ) (fun r => (r.1 = true ↔ isw T k 17) ∧ mA T k r.2 ∧ fr mD σ r.2) := by
  refine wq_mono (m_isHere hT h (mw72 hw)) (fun r p => ⟨?_, p.2⟩)
  rw [p.1, decide_eq_true_iff]
  exact lw (by decide) rfl
theorem r_as72 {T : tT} (hT : tOK T) {k : Nat} {σ : fhM} (h : mP T k σ) (hw : mW σ) : wq (f_X12_asks 72 σ) (fun s => (isw T k 17 → mP T (k + 1) s) ∧ (¬ isw T k 17 → mF (1, fm T k) s) ∧ fr mD σ s) := by
  refine wq_mono (m_asks hT h (mw72 hw)) (fun s p => ?_)
  by_cases z : isw T k 17
  · have := p.1
    rw [if_pos ((lw (by decide) rfl).mpr z)] at this
    exact ⟨fun _ => this, fun y => absurd z y, p.2⟩
  · have := p.1
    rw [if_neg (fun y => z ((lw (by decide) rfl).mp y))] at this
    exact ⟨fun y => absurd y z, fun _ => this, p.2⟩
theorem r_ta72 {T : tT} (hT : tOK T) {k : Nat} {σ : fhM} (h : mP T k σ) (hw : mW σ) : wq (f_X12_takes 72 σ) (fun r => (r.1 = true ↔ isw T k 17) ∧ (isw T k 17 → mP T (k + 1) r.2) ∧ (¬ isw T k 17 → mA T k r.2) ∧ fr mD σ r.2) := by
  refine wq_mono (m_takes hT h (mw72 hw)) (fun r p => ?_)
  have p2 := p.2.1
  refine ⟨by rw [p.1, decide_eq_true_iff]; exact lw (by decide) rfl, fun z => ?_, fun z => ?_, p.2.2⟩
  · rw [if_pos ((lw (by decide) rfl).mpr z)] at p2
    exact p2
  · rw [if_neg (fun y => z ((lw (by decide) rfl).mp y))] at p2
    exact p2
theorem r_is73 {T : tT} (hT : tOK T) {k : Nat} {σ : fhM} (h : mP T k σ) (hw : mW σ) : wq (f_X12_isHere 73 σ) (fun r => (r.1 = true ↔ isw T k 12) ∧ mA T k r.2 ∧ fr mD σ r.2) := by
  refine wq_mono (m_isHere hT h (mw73 hw)) (fun r p => ⟨?_, p.2⟩)
  rw [p.1, decide_eq_true_iff]
  exact lw (by decide) rfl
theorem r_as73 {T : tT} (hT : tOK T) {k : Nat} {σ : fhM} (h : mP T k σ) (hw : mW σ) : wq (f_X12_asks 73 σ) (fun s => (isw T k 12 → mP T (k + 1) s) ∧ (¬ isw T k 12 → mF (1, fm T k) s) ∧ fr mD σ s) := by
  refine wq_mono (m_asks hT h (mw73 hw)) (fun s p => ?_)
  by_cases z : isw T k 12
  · have := p.1
    rw [if_pos ((lw (by decide) rfl).mpr z)] at this
    exact ⟨fun _ => this, fun y => absurd z y, p.2⟩
  · have := p.1
    rw [if_neg (fun y => z ((lw (by decide) rfl).mp y))] at this
    exact ⟨fun y => absurd y z, fun _ => this, p.2⟩
theorem r_ta73 {T : tT} (hT : tOK T) {k : Nat} {σ : fhM} (h : mP T k σ) (hw : mW σ) : wq (f_X12_takes 73 σ) (fun r => (r.1 = true ↔ isw T k 12) ∧ (isw T k 12 → mP T (k + 1) r.2) ∧ (¬ isw T k 12 → mA T k r.2) ∧ fr mD σ r.2) := by
  refine wq_mono (m_takes hT h (mw73 hw)) (fun r p => ?_)
  have p2 := p.2.1
  refine ⟨by rw [p.1, decide_eq_true_iff]; exact lw (by decide) rfl, fun z => ?_, fun z => ?_, p.2.2⟩
  · rw [if_pos ((lw (by decide) rfl).mpr z)] at p2
    exact p2
  · rw [if_neg (fun y => z ((lw (by decide) rfl).mp y))] at p2
    exact p2
theorem r_is74 {T : tT} (hT : tOK T) {k : Nat} {σ : fhM} (h : mP T k σ) (hw : mW σ) : wq (f_X12_isHere 74 σ) (fun r => (r.1 = true ↔ isw T k 18) ∧ mA T k r.2 ∧ fr mD σ r.2) := by
  refine wq_mono (m_isHere hT h (mw74 hw)) (fun r p => ⟨?_, p.2⟩)
  rw [p.1, decide_eq_true_iff]
  exact lw (by decide) rfl
theorem r_as74 {T : tT} (hT : tOK T) {k : Nat} {σ : fhM} (h : mP T k σ) (hw : mW σ) : wq (f_X12_asks 74 σ) (fun s => (isw T k 18 → mP T (k + 1) s) ∧ (¬ isw T k 18 → mF (1, fm T k) s) ∧ fr mD σ s) := by
  refine wq_mono (m_asks hT h (mw74 hw)) (fun s p => ?_)
  by_cases z : isw T k 18
  · have := p.1
    rw [if_pos ((lw (by decide) rfl).mpr z)] at this
    exact ⟨fun _ => this, fun y => absurd z y, p.2⟩
  · have := p.1
    rw [if_neg (fun y => z ((lw (by decide) rfl).mp y))] at this
    exact ⟨fun y => absurd y z, fun _ => this, p.2⟩
theorem r_ta74 {T : tT} (hT : tOK T) {k : Nat} {σ : fhM} (h : mP T k σ) (hw : mW σ) : wq (f_X12_takes 74 σ) (fun r => (r.1 = true ↔ isw T k 18) ∧ (isw T k 18 → mP T (k + 1) r.2) ∧ (¬ isw T k 18 → mA T k r.2) ∧ fr mD σ r.2) := by
  refine wq_mono (m_takes hT h (mw74 hw)) (fun r p => ?_)
  have p2 := p.2.1
  refine ⟨by rw [p.1, decide_eq_true_iff]; exact lw (by decide) rfl, fun z => ?_, fun z => ?_, p.2.2⟩
  · rw [if_pos ((lw (by decide) rfl).mpr z)] at p2
    exact p2
  · rw [if_neg (fun y => z ((lw (by decide) rfl).mp y))] at p2
    exact p2
theorem r_is75 {T : tT} (hT : tOK T) {k : Nat} {σ : fhM} (h : mP T k σ) (hw : mW σ) : wq (f_X12_isHere 75 σ) (fun r => (r.1 = true ↔ isw T k 19) ∧ mA T k r.2 ∧ fr mD σ r.2) := by
  refine wq_mono (m_isHere hT h (mw75 hw)) (fun r p => ⟨?_, p.2⟩)
  rw [p.1, decide_eq_true_iff]
  exact lw (by decide) rfl
theorem r_as75 {T : tT} (hT : tOK T) {k : Nat} {σ : fhM} (h : mP T k σ) (hw : mW σ) : wq (f_X12_asks 75 σ) (fun s => (isw T k 19 → mP T (k + 1) s) ∧ (¬ isw T k 19 → mF (1, fm T k) s) ∧ fr mD σ s) := by
  refine wq_mono (m_asks hT h (mw75 hw)) (fun s p => ?_)
  by_cases z : isw T k 19
  · have := p.1
    rw [if_pos ((lw (by decide) rfl).mpr z)] at this
    exact ⟨fun _ => this, fun y => absurd z y, p.2⟩
  · have := p.1
    rw [if_neg (fun y => z ((lw (by decide) rfl).mp y))] at this
    exact ⟨fun y => absurd y z, fun _ => this, p.2⟩
theorem r_ta75 {T : tT} (hT : tOK T) {k : Nat} {σ : fhM} (h : mP T k σ) (hw : mW σ) : wq (f_X12_takes 75 σ) (fun r => (r.1 = true ↔ isw T k 19) ∧ (isw T k 19 → mP T (k + 1) r.2) ∧ (¬ isw T k 19 → mA T k r.2) ∧ fr mD σ r.2) := by
  refine wq_mono (m_takes hT h (mw75 hw)) (fun r p => ?_)
  have p2 := p.2.1
  refine ⟨by rw [p.1, decide_eq_true_iff]; exact lw (by decide) rfl, fun z => ?_, fun z => ?_, p.2.2⟩
  · rw [if_pos ((lw (by decide) rfl).mpr z)] at p2
    exact p2
  · rw [if_neg (fun y => z ((lw (by decide) rfl).mp y))] at p2
    exact p2
/-- the words of PARTS, by the reference's numbers -/
def wx : List Nat := [8, 9, 10, 11, 13, 14, 15, 16, 17, 12, 18, 19]
def wxi (T : tT) (k : Nat) : Option Nat := if kd T k = 1 then wx.findIdx? (fun j => j == ow (lt T k)) else none
theorem wxi_some {T : tT} {k i : Nat} : wxi T k = some i → i < 12 ∧ ∃ j, wx[i]? = some j ∧ isw T k j := by
  intro h
  unfold wxi at h
  by_cases q : kd T k = 1
  · rw [if_pos q] at h
    obtain ⟨h1, h2, -⟩ := List.findIdx?_eq_some_iff_getElem.mp h
    exact ⟨h1, wx[i], List.getElem?_eq_getElem h1, q, (eq_of_beq h2).symm⟩
  · rw [if_neg q] at h; cases h
theorem wx_nd : ∀ i, i < 12 → ∀ j, j < 12 → wx[i]? = wx[j]? → i = j := by decide
theorem wxi_of {T : tT} {k i j : Nat} (hi : wx[i]? = some j) (h : isw T k j) : wxi T k = some i := by
  cases e : wxi T k with
  | some i2 =>
    obtain ⟨a, j2, b, c⟩ := wxi_some e
    have hj : j2 = j := c.2.symm.trans h.2
    have hil : i < 12 := (List.getElem?_eq_some_iff.mp hi).1
    rw [wx_nd i2 a i hil (by rw [b, hi, hj])]
  | none =>
    exfalso
    unfold wxi at e
    rw [if_pos h.1, List.findIdx?_eq_none_iff] at e
    have := e j (List.mem_of_getElem? hi)
    rw [h.2] at this
    simp at this
theorem wxi_no {T : tT} {k : Nat} (h : ∀ i j : Nat, wx[i]? = some j → ¬ isw T k j) : wxi T k = none := by
  cases e : wxi T k with
  | none => rfl
  | some i =>
    obtain ⟨a, j, b, c⟩ := wxi_some e
    exact absurd c (h i j b)
theorem r_wordHere {T : tT} (hT : tOK T) {k : Nat} {σ : fhM} (h : mP T k σ) (hw : mW σ) : wq (f_X12_qWordHere σ) (fun r => r.1 = nixI (wxi T k) ∧ mA T k r.2 ∧ fr mD σ r.2) := by
  unfold f_X12_qWordHere
  have hf : fr mD σ σ := fr_rf
  rw [wq_bind]
  refine wq_mono (r_is64 hT h (mW_m hw hf)) ?_
  rintro ⟨c, y⟩ ⟨hc, hB, hg⟩
  replace hf : fr mD σ y := fr_tr hf hg
  have hA : mA T k y := hB
  dsimp only at hc ⊢
  by_cases q0 : isw T k 8
  · rw [if_pos (hc.mpr q0), wq_some, wxi_of (i := 0) rfl q0]
    exact ⟨rfl, hA, hf⟩
  rw [if_neg (fun z => q0 (hc.mp z))]
  clear hc hB hg
  rw [wq_bind]
  refine wq_mono (r_is65 hT hA.1 (mW_m hw hf)) ?_
  rintro ⟨c, y⟩ ⟨hc, hB, hg⟩
  replace hf : fr mD σ y := fr_tr hf hg
  replace hA : mA T k y := hB
  dsimp only at hc ⊢
  by_cases q1 : isw T k 9
  · rw [if_pos (hc.mpr q1), wq_some, wxi_of (i := 1) rfl q1]
    exact ⟨rfl, hA, hf⟩
  rw [if_neg (fun z => q1 (hc.mp z))]
  clear hc hB hg
  rw [wq_bind]
  refine wq_mono (r_is66 hT hA.1 (mW_m hw hf)) ?_
  rintro ⟨c, y⟩ ⟨hc, hB, hg⟩
  replace hf : fr mD σ y := fr_tr hf hg
  replace hA : mA T k y := hB
  dsimp only at hc ⊢
  by_cases q2 : isw T k 10
  · rw [if_pos (hc.mpr q2), wq_some, wxi_of (i := 2) rfl q2]
    exact ⟨rfl, hA, hf⟩
  rw [if_neg (fun z => q2 (hc.mp z))]
  clear hc hB hg
  rw [wq_bind]
  refine wq_mono (r_is67 hT hA.1 (mW_m hw hf)) ?_
  rintro ⟨c, y⟩ ⟨hc, hB, hg⟩
  replace hf : fr mD σ y := fr_tr hf hg
  replace hA : mA T k y := hB
  dsimp only at hc ⊢
  by_cases q3 : isw T k 11
  · rw [if_pos (hc.mpr q3), wq_some, wxi_of (i := 3) rfl q3]
    exact ⟨rfl, hA, hf⟩
  rw [if_neg (fun z => q3 (hc.mp z))]
  clear hc hB hg
  rw [wq_bind]
  refine wq_mono (r_is68 hT hA.1 (mW_m hw hf)) ?_
  rintro ⟨c, y⟩ ⟨hc, hB, hg⟩
  replace hf : fr mD σ y := fr_tr hf hg
  replace hA : mA T k y := hB
  dsimp only at hc ⊢
  by_cases q4 : isw T k 13
  · rw [if_pos (hc.mpr q4), wq_some, wxi_of (i := 4) rfl q4]
    exact ⟨rfl, hA, hf⟩
  rw [if_neg (fun z => q4 (hc.mp z))]
  clear hc hB hg
  rw [wq_bind]
  refine wq_mono (r_is69 hT hA.1 (mW_m hw hf)) ?_
  rintro ⟨c, y⟩ ⟨hc, hB, hg⟩
  replace hf : fr mD σ y := fr_tr hf hg
  replace hA : mA T k y := hB
  dsimp only at hc ⊢
  by_cases q5 : isw T k 14
  · rw [if_pos (hc.mpr q5), wq_some, wxi_of (i := 5) rfl q5]
    exact ⟨rfl, hA, hf⟩
  rw [if_neg (fun z => q5 (hc.mp z))]
  clear hc hB hg
  rw [wq_bind]
  refine wq_mono (r_is70 hT hA.1 (mW_m hw hf)) ?_
  rintro ⟨c, y⟩ ⟨hc, hB, hg⟩
  replace hf : fr mD σ y := fr_tr hf hg
  replace hA : mA T k y := hB
  dsimp only at hc ⊢
  by_cases q6 : isw T k 15
  · rw [if_pos (hc.mpr q6), wq_some, wxi_of (i := 6) rfl q6]
    exact ⟨rfl, hA, hf⟩
  rw [if_neg (fun z => q6 (hc.mp z))]
  clear hc hB hg
  rw [wq_bind]
  refine wq_mono (r_is71 hT hA.1 (mW_m hw hf)) ?_
  rintro ⟨c, y⟩ ⟨hc, hB, hg⟩
  replace hf : fr mD σ y := fr_tr hf hg
  replace hA : mA T k y := hB
  dsimp only at hc ⊢
  by_cases q7 : isw T k 16
  · rw [if_pos (hc.mpr q7), wq_some, wxi_of (i := 7) rfl q7]
    exact ⟨rfl, hA, hf⟩
  rw [if_neg (fun z => q7 (hc.mp z))]
  clear hc hB hg
  rw [wq_bind]
  refine wq_mono (r_is72 hT hA.1 (mW_m hw hf)) ?_
  rintro ⟨c, y⟩ ⟨hc, hB, hg⟩
  replace hf : fr mD σ y := fr_tr hf hg
  replace hA : mA T k y := hB
  dsimp only at hc ⊢
  by_cases q8 : isw T k 17
  · rw [if_pos (hc.mpr q8), wq_some, wxi_of (i := 8) rfl q8]
    exact ⟨rfl, hA, hf⟩
  rw [if_neg (fun z => q8 (hc.mp z))]
  clear hc hB hg
  rw [wq_bind]
  refine wq_mono (r_is73 hT hA.1 (mW_m hw hf)) ?_
  rintro ⟨c, y⟩ ⟨hc, hB, hg⟩
  replace hf : fr mD σ y := fr_tr hf hg
  replace hA : mA T k y := hB
  dsimp only at hc ⊢
  by_cases q9 : isw T k 12
  · rw [if_pos (hc.mpr q9), wq_some, wxi_of (i := 9) rfl q9]
    exact ⟨rfl, hA, hf⟩
  rw [if_neg (fun z => q9 (hc.mp z))]
  clear hc hB hg
  rw [wq_bind]
  refine wq_mono (r_is74 hT hA.1 (mW_m hw hf)) ?_
  rintro ⟨c, y⟩ ⟨hc, hB, hg⟩
  replace hf : fr mD σ y := fr_tr hf hg
  replace hA : mA T k y := hB
  dsimp only at hc ⊢
  by_cases q10 : isw T k 18
  · rw [if_pos (hc.mpr q10), wq_some, wxi_of (i := 10) rfl q10]
    exact ⟨rfl, hA, hf⟩
  rw [if_neg (fun z => q10 (hc.mp z))]
  clear hc hB hg
  rw [wq_bind]
  refine wq_mono (r_is75 hT hA.1 (mW_m hw hf)) ?_
  rintro ⟨c, y⟩ ⟨hc, hB, hg⟩
  replace hf : fr mD σ y := fr_tr hf hg
  replace hA : mA T k y := hB
  dsimp only at hc ⊢
  by_cases q11 : isw T k 19
  · rw [if_pos (hc.mpr q11), wq_some, wxi_of (i := 11) rfl q11]
    exact ⟨rfl, hA, hf⟩
  rw [if_neg (fun z => q11 (hc.mp z))]
  clear hc hB hg
  rw [wq_some, wxi_no (fun i j hi => ?_)]
  · exact ⟨rfl, hA, hf⟩
  have hil : i < 12 := (List.getElem?_eq_some_iff.mp hi).1
  have hcs : i = 0 ∨ i = 1 ∨ i = 2 ∨ i = 3 ∨ i = 4 ∨ i = 5 ∨ i = 6 ∨ i = 7 ∨ i = 8 ∨ i = 9 ∨ i = 10 ∨ i = 11 := by omega
  rcases hcs with rfl | rfl | rfl | rfl | rfl | rfl | rfl | rfl | rfl | rfl | rfl | rfl
  · cases hi; exact q0
  · cases hi; exact q1
  · cases hi; exact q2
  · cases hi; exact q3
  · cases hi; exact q4
  · cases hi; exact q5
  · cases hi; exact q6
  · cases hi; exact q7
  · cases hi; exact q8
  · cases hi; exact q9
  · cases hi; exact q10
  · cases hi; exact q11
