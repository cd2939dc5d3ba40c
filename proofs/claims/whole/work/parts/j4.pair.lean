/-! THE PAIRS: answers that change nothing -/
def okQ {α : Type} (n : Nat) (oF oM : Option (α × fhM)) : Prop := ∃ (v : α) (a b : fhM) (B : aS), oF = some (v, a) ∧ oM = some (v, b) ∧ CS B a ∧ MS B b ∧ AV (n + 1) B
theorem AV_s {n : Nat} {A : aS} (h : AV n A) : AV (n + 1) A := ⟨h.1, h.2.1, h.2.2.1, h.2.2.2.1, by have := h.2.2.2.2.1; omega, h.2.2.2.2.2⟩
theorem okQ_w {α : Type} {n : Nat} {oF oM : Option (α × fhM)} {v : α} {P Q : fhM → Prop} {B : aS} (h1 : wq oF (fun r => r.1 = v ∧ CS B r.2)) (h2 : wq oM (fun r => r.1 = v ∧ MS B r.2)) (h3 : AV (n + 1) B) : okQ n oF oM := by
  obtain ⟨⟨a, s⟩, e1, rfl, c⟩ := h1
  obtain ⟨⟨b, t⟩, e2, h, d⟩ := h2
  have h : b = a := h
  subst h
  exact ⟨_, s, t, B, e1, e2, c, d, h3⟩
def qDm (t : Nat) : Prop := t = 42 ∨ t = 45 ∨ t = 46 ∨ t = 47 ∨ t = 48 ∨ t = 49
theorem MS_q {A : aS} {σ s : fhM} (h : MS A σ) (hf : fr (fun t _ => qDm t) σ s) : MS A s := ⟨MS0_k h.1 (fun t j z => hf.2 t j (by unfold kpQ kpW at z; unfold qDm; omega)) (fun j => by rw [hf.1]), MS1_k h.2 (fun t j z => hf.2 t j (by unfold kpN at z; unfold qDm; omega)) (by rw [hf.1])⟩
theorem fr_qU {σ : fhM} {t u : Nat → Int32} {a b : Nat} (ha : qDm a) (hb : qDm b) : fr (fun t _ => qDm t) σ (fhU (fhU σ a t) b u) := fr_U (fr_U fr_rf (fun _ => ha)) (fun _ => hb)
section
variable {n : Nat} {A : aS} {σ τ : fhM}
theorem p_fault (hc : CS A σ) (hm : MS A τ) (hv : AV n A) (v : Int32) : okQ n (some (f_X11_fault v σ, σ)) (some (f_X12_fault v τ, τ)) := by
  refine ⟨_, σ, τ, A, rfl, ?_, hc, hm, AV_s hv⟩
  have : f_X12_fault v τ = f_X11_fault v σ := by
    unfold f_X11_fault f_X12_fault
    rw [hc.2.2.2.2.1.1, hc.2.2.2.2.1.2, hm.2.2.2.2.1.1, hm.2.2.2.2.1.2]
  rw [this]
theorem p_status (hc : CS A σ) (hm : MS A τ) (hv : AV n A) (v : Int32) : okQ n (some (f_X11_status v σ, σ)) (Option.map (fun x => (x, τ)) (f_X12_status v τ)) := by
  have hq1 := hc.2.2.2.1
  have hq2 := hm.2.2.2.1
  have e : f_X12_status v τ = some (f_X11_status v σ) := by
    unfold f_X12_status f_X11_status
    by_cases c : inB v 6
    · obtain ⟨e, h⟩ := inB_e c
      rw [if_pos (show f_X12_isIn v.toInt64 (0 : Int64) (5 : Int64) τ = true by rw [show (0 : Int64) = lI 0 from rfl, show (5 : Int64) = lI 5 from rfl, m_inI v (by decide) (by decide) (by decide) (by decide)]; have := c.1; have := c.2; omega), if_neg (show ¬ v < 0 by rw [lt0_P]; have := c.1; omega), if_neg (show ¬ (6 : Int32) ≤ v by rw [show (6 : Int32) = nI 6 from rfl, le_nP v (by decide)]; have := c.2; omega)]
      generalize v.toInt.toNat = k at e h
      subst e
      rw [if_pos (ph_in1 (by omega) (by omega)), ph_ix (by omega), cg100 h, hq1 k h, hq2 k h]
    · rw [if_neg (show ¬ f_X12_isIn v.toInt64 (0 : Int64) (5 : Int64) τ = true by rw [show (0 : Int64) = lI 0 from rfl, show (5 : Int64) = lI 5 from rfl, m_inI v (by decide) (by decide) (by decide) (by decide)]; exact fun z => c ⟨z.1, by have := z.2; omega⟩)]
      by_cases d : v < 0
      · rw [if_pos d]
      · rw [if_neg d, if_pos (show (6 : Int32) ≤ v by rw [show (6 : Int32) = nI 6 from rfl, le_nP v (by decide)]; rw [lt0_P] at d; have : ¬ (0 ≤ v.toInt ∧ v.toInt < ((6 : Nat) : Int)) := c; omega)]
  exact ⟨_, σ, τ, A, rfl, by rw [e]; rfl, hc, hm, AV_s hv⟩
theorem p_octet (hc : CS A σ) (hm : MS A τ) (hv : AV n A) (v : Int32) : okQ n (some (f_X11_octet v σ, σ)) (Option.map (fun x => (x, τ)) (f_X12_octet v τ)) := by
  obtain ⟨c1, c2⟩ := hc.2.2.2.2.2.2
  obtain ⟨m1, m2⟩ := hm.2.2.2.2.2.2
  have h136 := hv.2.2.2.2.2.2.2
  have e : f_X12_octet v τ = some (f_X11_octet v σ) := by
    unfold f_X12_octet f_X11_octet
    rw [c1, m1]
    by_cases d : v < 0
    · rw [if_pos d, if_pos d]
    · rw [if_neg d, if_neg d]
      by_cases c : nI A.i.1 ≤ v
      · rw [if_pos c, if_pos c]
      · rw [if_neg c, if_neg c]
        rw [lt0_P] at d
        rw [le_nP v (by omega)] at c
        obtain ⟨e, h⟩ := inB_e (v := v) (c := A.i.1) ⟨by omega, by omega⟩
        generalize v.toInt.toNat = k at e h
        subst e
        rw [if_pos (ph_in1 (by omega) (by omega)), ph_ix (by omega), cg98 (by omega), c2 k h, m2 k h]
  exact ⟨_, σ, τ, A, rfl, by rw [e]; rfl, hc, hm, AV_s hv⟩
theorem p_letter (hc : CS A σ) (hm : MS A τ) (hv : AV n A) (v w : Int32) : okQ n (Option.map (fun x => (x, σ)) (f_X11_letter v w σ)) (Option.map (fun x => (x, τ)) (f_X12_letter v w τ)) := by
  obtain ⟨hs, htd, hg, -, -⟩ := hc.1
  obtain ⟨-, htm, hgm, -⟩ := hm.1
  have hP := (swp_P hs).1
  have key : ∃ nl : List (List Nat), nl.length ≤ 5 ∧ (∀ l ∈ nl, nmO l) ∧ (aW A.p).g = nl.length ∧ (∀ k l, nl[k]? = some l → σ.1 (σ.2.2 0 6 + 11) k = nI (p5 l)) ∧ ∀ k l, nl[k]? = some l → τ.2.1 30 (5 + k) = lN (e27 l) := by
    cases hp : A.p with
    | none => exact ⟨[], by decide, fun l hl => (by cases hl), rfl, fun k l h => (by rw [List.getElem?_nil] at h; cases h), fun k l h => (by rw [List.getElem?_nil] at h; cases h)⟩
    | some p =>
      rw [hp] at htd htm
      obtain ⟨-, out, hr⟩ := htd
      obtain ⟨c1, c2, c3⟩ := hr.2.2.1
      refine ⟨p.nl, c2, fun l hl => ?_, ?_, fun k l h => (c3 k l h).2.2.2, htm.2.2.2⟩
      · obtain ⟨k, hk⟩ := List.getElem?_of_mem hl
        obtain ⟨a, b, c, -⟩ := c3 k l hk
        exact ⟨a, b, c⟩
      · show p.gs.length = p.nl.length
        unfold fhPS.nl
        rw [List.length_map]
  obtain ⟨nl, k1, k2, k3, k4, k5⟩ := key
  rw [c_letter k1 k2 (by rw [← k3]; exact hg.1.2.1) hP k4 v w, m_letter k1 k2 (by rw [← k3]; exact hgm.1.1.2.1) k5 v w]
  exact ⟨_, σ, τ, A, rfl, rfl, hc, hm, AV_s hv⟩
end
