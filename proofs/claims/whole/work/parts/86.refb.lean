/-! BEHIND A PART: what ends, what goes on -/
theorem kA_end {T : tT} (hT : tOK T) {q : Bool} {nl : List (List Nat)} {o k : Nat} {out : gC} {wt : List Nat} {b : Nat} {v : Int32} {σ : fhM} {Q : fhM → Prop} (h : rG T q nl o k out wt b σ) (hw : wt.length = b ∨ ∃ u r, wt = u :: r ∧ u < 60) (go : wq (kG v σ) Q) : wq (kA v σ) Q := by
  have hT2 := hT.1
  have hk := h.2.1
  have hl := h.2.2.2.2.2.1
  unfold kA f_X12_qEndsPart
  rw [wq_bind]
  refine wq_step ?_
  unfold f_X12_qEndsPart_0
  have hgo : wq (kB v σ) Q := by
    unfold kB
    rw [if_pos (rG_bad h)]
    exact go
  rw [if_pos (rG_bad h), h.2.2.2.2.2.2.2.1]
  rcases hw with e | ⟨u, r, e, hu⟩
  · rw [if_pos (show σ.1 0 101 ≤ nI b by rw [h.2.2.2.2.1.1, e]; exact Int32.le_refl _), wq_some, fhK_r]
    exact hgo
  · subst e
    obtain ⟨e1, e2, e3, e4⟩ := r_top hT h
    split
    · rw [wq_some, fhK_r]; exact hgo
    · rw [e1, if_pos (ph_in1 (by omega) e2), ph_ix (by omega), e3, if_pos (show nI u < (60 : Int32) from nI_lt (b := 60) hu (by decide)), wq_some, fhK_r]
      exact hgo
/-- a word waited for this part -/
theorem kA_of {T : tT} (hT : tOK T) {q : Bool} {nl : List (List Nat)} {o k u : Nat} {out : gC} {wt : List Nat} {b : Nat} {v : Int32} {σ : fhM} {Q : fhM → Prop} (h : rG T q nl (o + 1) k out (u :: wt) b σ) (hb : b ≤ wt.length) (hu : 60 ≤ u) (hu2 : u ∈ rOps) (go : ∀ s, rG T q nl o k (out ++ [rDec u]) wt b s → fr rD σ s → wq (kA v s) Q) : wq (kA v σ) Q := by
  have hT2 := hT.1
  have hk := h.2.1
  have hl := h.2.2.2.2.2.1
  obtain ⟨e1, e2, e3, e4⟩ := r_top hT h
  unfold kA f_X12_qEndsPart
  rw [wq_bind]
  refine wq_step ?_
  unfold f_X12_qEndsPart_0
  rw [if_pos (rG_bad h), h.2.2.2.2.2.2.2.1, if_neg (show ¬ σ.1 0 101 ≤ nI b by rw [h.2.2.2.2.1.1]; exact nI_ge (by rw [List.length_cons]; omega) (by omega)), e1, if_pos (ph_in1 (by omega) e2), ph_ix (by omega), e3, if_neg (show ¬ nI u < (60 : Int32) from nI_nlt (b := 60) hu (by omega)), wq_bind, h.2.2.2.2.2.2.1, show nI (o + 1) - (1 : Int32) = nI o from nI_pred o]
  obtain ⟨a, f⟩ := r_open h o
  refine wq_mono (r_drop hT a hb hu2) (fun s p => ?_)
  rw [wq_some, fhK_l]
  have := go s p.1 (fr_tr f p.2)
  unfold kA f_X12_qEndsPart at this
  rwa [wq_bind] at this
/-- the signs tried one by one, none of them there -/
theorem kG_head {T : tT} (hT : tOK T) {q : Bool} {nl : List (List Nat)} {o k : Nat} {out : gC} {wt : List Nat} {b : Nat} {v : Int32} {σ : fhM} {Q : fhM → Prop} (h : rG T q nl o k out wt b σ)
    (go : ∀ s, rG T q nl o k out wt b s → mA T k s → fr mD σ s → wq (if mc T k = (41 : Int32) then Option.bind (f_X12_qBracket s) fun q2 => if q2 = (20 : Int32) then f_X12_qGoesOn_43 s else Option.bind (f_X12_qBracket s) fun q3 => if q3 = (23 : Int32) then f_X12_qGoesOn_43 s else Option.bind (f_X12_qBracket s) fun q4 => if q4 = (24 : Int32) then f_X12_qGoesOn_43 s else Option.map Sum.inr (f_X12_qGoesOn_122 s) else Option.map Sum.inr (f_X12_qGoesOn_122 s))
      (fhK (fun y => wq (kG v y) Q) (fun q2 => wq (if q2.1 = true then kLS v (1, q2.2) else kLS v (0, q2.2)) Q))) : wq (kG v σ) Q := by
  unfold kG
  rw [wq_bind]
  refine wq_step ?_
  unfold f_X12_qGoesOn_0
  rw [if_pos (rG_bad h), wq_bind]
  refine wq_mono (m_look hT h.1) ?_
  rintro ⟨c, s⟩ ⟨hc, hA, hf⟩
  have hc : c = mc T k := hc
  have hs := rG_m h hA.1 (Nat.le_refl _) h.2.1 hf
  dsimp only
  rw [hc]
  have := go s hs hA hf
  refine wq_mono this ?_
  rintro (y | y) p
  · rw [fhK_l] at p ⊢
    unfold kG at p
    rwa [wq_bind] at p
  · exact p
theorem kG_122 {T : tT} {k : Nat} {v : Int32} {s : fhM} {Q : fhM → Prop} (h41 : ¬ mc T k = (41 : Int32)) (go : wq (f_X12_qGoesOn_122 s) (fun q2 => wq (if q2.1 = true then kLS v (1, q2.2) else kLS v (0, q2.2)) Q)) : wq (if mc T k = (41 : Int32) then Option.bind (f_X12_qBracket s) fun q2 => if q2 = (20 : Int32) then f_X12_qGoesOn_43 s else Option.bind (f_X12_qBracket s) fun q3 => if q3 = (23 : Int32) then f_X12_qGoesOn_43 s else Option.bind (f_X12_qBracket s) fun q4 => if q4 = (24 : Int32) then f_X12_qGoesOn_43 s else Option.map Sum.inr (f_X12_qGoesOn_122 s) else Option.map Sum.inr (f_X12_qGoesOn_122 s))
      (fhK (fun y => wq (kG v y) Q) (fun q2 => wq (if q2.1 = true then kLS v (1, q2.2) else kLS v (0, q2.2)) Q)) := by
  rw [if_neg h41, wq_map]
  exact go
/-- what waits on top of like strength is told, the new word waits -/
theorem r_mulLoop {T : tT} (hT : tOK T) {q : Bool} {nl : List (List Nat)} {o k : Nat} {b op : Nat} {wt : List Nat} (hop : op < 100) (hwt : ∀ u, wt.head? = some u → u ≠ 3 ∧ u ≠ 4) (hb : b ≤ wt.length) : ∀ (pn : List Nat) (out : gC) (σ : fhM), (∀ x ∈ pn, x = 3 ∨ x = 4) → rG T q nl o k out (pn ++ wt) b σ → out.length + (pn ++ wt).length + 1 ≤ k →
    wq (f_X12_qGoesOn_161 (nI op) σ) (fun r => r.1 = true ∧ rG T q nl o k (out ++ pn.map rDec) (op :: wt) b r.2 ∧ fr rD σ r.2) := by
  have hT2 := hT.1
  intro pn
  induction pn with
  | nil =>
    intro out σ _ h hl
    have h : rG T q nl o k out wt b σ := h
    have hl : out.length + wt.length + 1 ≤ k := hl
    have hk := h.2.1
    unfold f_X12_qGoesOn_161
    refine wq_step ?_
    unfold f_X12_qGoesOn_162
    have e3 : f_X12_qIsOn 3 σ = some false := by
      rw [show (3 : Int32) = nI 3 from rfl, r_isOn hT h 3 (by decide), decide_eq_false (fun z => by have := hwt 3 z; omega)]
    have e4 : f_X12_qIsOn 4 σ = some false := by
      rw [show (4 : Int32) = nI 4 from rfl, r_isOn hT h 4 (by decide), decide_eq_false (fun z => by have := hwt 4 z; omega)]
    obtain ⟨a, f⟩ := r_push h op hop (by omega)
    rw [e3, wq_bind, wq_some, if_neg (by decide), e4, wq_bind, wq_some, if_neg (by decide), h.2.2.2.2.1.1, if_pos (ph_in1 (by omega) (by omega)), ph_ix (by omega), wq_some, fhK_r]
    have e : (fhI σ 77 wt.length (nI op)).1 0 101 + (1 : Int32) = nI (wt.length + 1) := by simp (disch := omega) only [fhI_e, fhI_o, fhI_s]; rw [h.2.2.2.2.1.1, nI_1]
    rw [List.map_nil, List.append_nil]
    first
      | exact ⟨rfl, a, f⟩
      | (rw [nI_1]; exact ⟨rfl, a, f⟩)
      | (rw [e]; exact ⟨rfl, a, f⟩)
  | cons x r ih =>
    intro out σ hx h hl
    have h : rG T q nl o k out (x :: (r ++ wt)) b σ := h
    have hl : out.length + ((r ++ wt).length + 1) + 1 ≤ k := hl
    have hbl : b ≤ (r ++ wt).length := by rw [List.length_append]; omega
    have hx0 := hx x List.mem_cons_self
    have hdrop : x ∈ rOps → wq (Option.bind (f_X12_qDrops σ) fun q14 => (some (.inl q14) : Option (fhM ⊕ (Bool × fhM)))) (fhK (fun y => wq (fhlp (fun x => f_X12_qGoesOn_162 (nI op) x) y) (fun r_1 => r_1.1 = true ∧ rG T q nl o k (out ++ (x :: r).map rDec) (op :: wt) b r_1.2 ∧ fr rD σ r_1.2)) (fun r_1 => r_1.1 = true ∧ rG T q nl o k (out ++ (x :: r).map rDec) (op :: wt) b r_1.2 ∧ fr rD σ r_1.2)) := by
      intro hxo
      rw [wq_bind]
      refine wq_mono (r_drop hT h hbl hxo) (fun s p => ?_)
      rw [wq_some, fhK_l]
      have := ih (out ++ [rDec x]) s (fun y hy => hx y (List.mem_cons_of_mem _ hy)) p.1 (by rw [List.length_append, List.length_singleton]; omega)
      unfold f_X12_qGoesOn_161 at this
      refine wq_mono this (fun y z => ⟨z.1, ?_, fr_tr p.2 z.2.2⟩)
      have z2 := z.2.1
      rw [List.append_assoc] at z2
      exact z2
    unfold f_X12_qGoesOn_161
    refine wq_step ?_
    unfold f_X12_qGoesOn_162 f_X12_qGoesOn_178
    rcases hx0 with rfl | rfl
    · have e3 : f_X12_qIsOn 3 σ = some true := by rw [show (3 : Int32) = nI 3 from rfl, r_isOn hT h 3 (by decide)]; rfl
      rw [e3, wq_bind, wq_some, if_pos rfl]
      exact hdrop (by decide)
    · have e3 : f_X12_qIsOn 3 σ = some false := by rw [show (3 : Int32) = nI 3 from rfl, r_isOn hT h 3 (by decide)]; rfl
      have e4 : f_X12_qIsOn 4 σ = some true := by rw [show (4 : Int32) = nI 4 from rfl, r_isOn hT h 4 (by decide)]; rfl
      rw [e3, wq_bind, wq_some, if_neg (by decide), e4, wq_bind, wq_some, if_pos rfl]
      exact hdrop (by decide)
/-- what waits on top of like strength is told, the new word waits -/
theorem r_addLoop {T : tT} (hT : tOK T) {q : Bool} {nl : List (List Nat)} {o k : Nat} {b op : Nat} {wt : List Nat} (hop : op < 100) (hwt : ∀ u, wt.head? = some u → u ≠ 3 ∧ u ≠ 4 ∧ u ≠ 1 ∧ u ≠ 2) (hb : b ≤ wt.length) : ∀ (pn : List Nat) (out : gC) (σ : fhM), (∀ x ∈ pn, x = 3 ∨ x = 4 ∨ x = 1 ∨ x = 2) → rG T q nl o k out (pn ++ wt) b σ → out.length + (pn ++ wt).length + 1 ≤ k →
    wq (f_X12_qGoesOn_246 (nI op) σ) (fun r => r.1 = true ∧ rG T q nl o k (out ++ pn.map rDec) (op :: wt) b r.2 ∧ fr rD σ r.2) := by
  have hT2 := hT.1
  intro pn
  induction pn with
  | nil =>
    intro out σ _ h hl
    have h : rG T q nl o k out wt b σ := h
    have hl : out.length + wt.length + 1 ≤ k := hl
    have hk := h.2.1
    unfold f_X12_qGoesOn_246
    refine wq_step ?_
    unfold f_X12_qGoesOn_247
    have e3 : f_X12_qIsOn 3 σ = some false := by
      rw [show (3 : Int32) = nI 3 from rfl, r_isOn hT h 3 (by decide), decide_eq_false (fun z => by have := hwt 3 z; omega)]
    have e4 : f_X12_qIsOn 4 σ = some false := by
      rw [show (4 : Int32) = nI 4 from rfl, r_isOn hT h 4 (by decide), decide_eq_false (fun z => by have := hwt 4 z; omega)]
    have e1 : f_X12_qIsOn 1 σ = some false := by
      rw [show (1 : Int32) = nI 1 from rfl, r_isOn hT h 1 (by decide), decide_eq_false (fun z => by have := hwt 1 z; omega)]
    have e2 : f_X12_qIsOn 2 σ = some false := by
      rw [show (2 : Int32) = nI 2 from rfl, r_isOn hT h 2 (by decide), decide_eq_false (fun z => by have := hwt 2 z; omega)]
    obtain ⟨a, f⟩ := r_push h op hop (by omega)
    rw [e3, wq_bind, wq_some, if_neg (by decide), e4, wq_bind, wq_some, if_neg (by decide), e1, wq_bind, wq_some, if_neg (by decide), e2, wq_bind, wq_some, if_neg (by decide), h.2.2.2.2.1.1, if_pos (ph_in1 (by omega) (by omega)), ph_ix (by omega), wq_some, fhK_r]
    have e : (fhI σ 77 wt.length (nI op)).1 0 101 + (1 : Int32) = nI (wt.length + 1) := by simp (disch := omega) only [fhI_e, fhI_o, fhI_s]; rw [h.2.2.2.2.1.1, nI_1]
    rw [List.map_nil, List.append_nil]
    first
      | exact ⟨rfl, a, f⟩
      | (rw [nI_1]; exact ⟨rfl, a, f⟩)
      | (rw [e]; exact ⟨rfl, a, f⟩)
  | cons x r ih =>
    intro out σ hx h hl
    have h : rG T q nl o k out (x :: (r ++ wt)) b σ := h
    have hl : out.length + ((r ++ wt).length + 1) + 1 ≤ k := hl
    have hbl : b ≤ (r ++ wt).length := by rw [List.length_append]; omega
    have hx0 := hx x List.mem_cons_self
    have hdrop : x ∈ rOps → wq (Option.bind (f_X12_qDrops σ) fun q14 => (some (.inl q14) : Option (fhM ⊕ (Bool × fhM)))) (fhK (fun y => wq (fhlp (fun x => f_X12_qGoesOn_247 (nI op) x) y) (fun r_1 => r_1.1 = true ∧ rG T q nl o k (out ++ (x :: r).map rDec) (op :: wt) b r_1.2 ∧ fr rD σ r_1.2)) (fun r_1 => r_1.1 = true ∧ rG T q nl o k (out ++ (x :: r).map rDec) (op :: wt) b r_1.2 ∧ fr rD σ r_1.2)) := by
      intro hxo
      rw [wq_bind]
      refine wq_mono (r_drop hT h hbl hxo) (fun s p => ?_)
      rw [wq_some, fhK_l]
      have := ih (out ++ [rDec x]) s (fun y hy => hx y (List.mem_cons_of_mem _ hy)) p.1 (by rw [List.length_append, List.length_singleton]; omega)
      unfold f_X12_qGoesOn_246 at this
      refine wq_mono this (fun y z => ⟨z.1, ?_, fr_tr p.2 z.2.2⟩)
      have z2 := z.2.1
      rw [List.append_assoc] at z2
      exact z2
    unfold f_X12_qGoesOn_246
    refine wq_step ?_
    unfold f_X12_qGoesOn_247 f_X12_qGoesOn_279
    rcases hx0 with rfl | rfl | rfl | rfl
    · have e3 : f_X12_qIsOn 3 σ = some true := by rw [show (3 : Int32) = nI 3 from rfl, r_isOn hT h 3 (by decide)]; rfl
      rw [e3, wq_bind, wq_some, if_pos rfl]
      exact hdrop (by decide)
    · have e3 : f_X12_qIsOn 3 σ = some false := by rw [show (3 : Int32) = nI 3 from rfl, r_isOn hT h 3 (by decide)]; rfl
      have e4 : f_X12_qIsOn 4 σ = some true := by rw [show (4 : Int32) = nI 4 from rfl, r_isOn hT h 4 (by decide)]; rfl
      rw [e3, wq_bind, wq_some, if_neg (by decide), e4, wq_bind, wq_some, if_pos rfl]
      exact hdrop (by decide)
    · have e3 : f_X12_qIsOn 3 σ = some false := by rw [show (3 : Int32) = nI 3 from rfl, r_isOn hT h 3 (by decide)]; rfl
      have e4 : f_X12_qIsOn 4 σ = some false := by rw [show (4 : Int32) = nI 4 from rfl, r_isOn hT h 4 (by decide)]; rfl
      have e1 : f_X12_qIsOn 1 σ = some true := by rw [show (1 : Int32) = nI 1 from rfl, r_isOn hT h 1 (by decide)]; rfl
      rw [e3, wq_bind, wq_some, if_neg (by decide), e4, wq_bind, wq_some, if_neg (by decide), e1, wq_bind, wq_some, if_pos rfl]
      exact hdrop (by decide)
    · have e3 : f_X12_qIsOn 3 σ = some false := by rw [show (3 : Int32) = nI 3 from rfl, r_isOn hT h 3 (by decide)]; rfl
      have e4 : f_X12_qIsOn 4 σ = some false := by rw [show (4 : Int32) = nI 4 from rfl, r_isOn hT h 4 (by decide)]; rfl
      have e1 : f_X12_qIsOn 1 σ = some false := by rw [show (1 : Int32) = nI 1 from rfl, r_isOn hT h 1 (by decide)]; rfl
      have e2 : f_X12_qIsOn 2 σ = some true := by rw [show (2 : Int32) = nI 2 from rfl, r_isOn hT h 2 (by decide)]; rfl
      rw [e3, wq_bind, wq_some, if_neg (by decide), e4, wq_bind, wq_some, if_neg (by decide), e1, wq_bind, wq_some, if_neg (by decide), e2, wq_bind, wq_some, if_pos rfl]
      exact hdrop (by decide)
/-- what waits on top of like strength is told, the new word waits -/
theorem r_andLoop {T : tT} (hT : tOK T) {q : Bool} {nl : List (List Nat)} {o k : Nat} {b : Nat} {wt : List Nat} (hwt : ∀ u, wt.head? = some u → u ≠ 10) (hb : b ≤ wt.length) : ∀ (pn : List Nat) (out : gC) (σ : fhM), (∀ x ∈ pn, x = 10) → rG T q nl o k out (pn ++ wt) b σ → out.length + (pn ++ wt).length + 1 ≤ k →
    wq (fhlp (fun x => f_X12_qGoesOnTest_87 x) σ) (fun r => r.1 = true ∧ rG T q nl o k (out ++ pn.map rDec) (10 :: wt) b r.2 ∧ fr rD σ r.2) := by
  have hT2 := hT.1
  intro pn
  induction pn with
  | nil =>
    intro out σ _ h hl
    have h : rG T q nl o k out wt b σ := h
    have hl : out.length + wt.length + 1 ≤ k := hl
    have hk := h.2.1
    refine wq_step ?_
    unfold f_X12_qGoesOnTest_87
    have e10 : f_X12_qIsOn 10 σ = some false := by
      rw [show (10 : Int32) = nI 10 from rfl, r_isOn hT h 10 (by decide), decide_eq_false (fun z => by have := hwt 10 z; omega)]
    obtain ⟨a, f⟩ := r_push h 10 (by decide) (by omega)
    rw [e10, wq_bind, wq_some, if_neg (by decide), h.2.2.2.2.1.1, if_pos (ph_in1 (by omega) (by omega)), ph_ix (by omega), wq_some, fhK_r]
    have e : (fhI σ 77 wt.length (nI 10)).1 0 101 + (1 : Int32) = nI (wt.length + 1) := by simp (disch := omega) only [fhI_e, fhI_o, fhI_s]; rw [h.2.2.2.2.1.1, nI_1]
    rw [List.map_nil, List.append_nil]
    first
      | exact ⟨rfl, a, f⟩
      | (rw [nI_1]; exact ⟨rfl, a, f⟩)
      | (rw [e]; exact ⟨rfl, a, f⟩)
  | cons x r ih =>
    intro out σ hx h hl
    have h : rG T q nl o k out (x :: (r ++ wt)) b σ := h
    have hl : out.length + ((r ++ wt).length + 1) + 1 ≤ k := hl
    have hbl : b ≤ (r ++ wt).length := by rw [List.length_append]; omega
    have hx0 := hx x List.mem_cons_self
    have hdrop : x ∈ rOps → wq (Option.bind (f_X12_qDrops σ) fun q14 => (some (.inl q14) : Option (fhM ⊕ (Bool × fhM)))) (fhK (fun y => wq (fhlp (fun x => f_X12_qGoesOnTest_87 x) y) (fun r_1 => r_1.1 = true ∧ rG T q nl o k (out ++ (x :: r).map rDec) (10 :: wt) b r_1.2 ∧ fr rD σ r_1.2)) (fun r_1 => r_1.1 = true ∧ rG T q nl o k (out ++ (x :: r).map rDec) (10 :: wt) b r_1.2 ∧ fr rD σ r_1.2)) := by
      intro hxo
      rw [wq_bind]
      refine wq_mono (r_drop hT h hbl hxo) (fun s p => ?_)
      rw [wq_some, fhK_l]
      have := ih (out ++ [rDec x]) s (fun y hy => hx y (List.mem_cons_of_mem _ hy)) p.1 (by rw [List.length_append, List.length_singleton]; omega)
      refine wq_mono this (fun y z => ⟨z.1, ?_, fr_tr p.2 z.2.2⟩)
      have z2 := z.2.1
      rw [List.append_assoc] at z2
      exact z2
    refine wq_step ?_
    unfold f_X12_qGoesOnTest_87
    subst hx0
    have e10 : f_X12_qIsOn 10 σ = some true := by rw [show (10 : Int32) = nI 10 from rfl, r_isOn hT h 10 (by decide)]; rfl
    rw [e10, wq_bind, wq_some, if_pos rfl]
    exact hdrop (by decide)
/-- what waits on top of like strength is told, the new word waits -/
theorem r_orLoop {T : tT} (hT : tOK T) {q : Bool} {nl : List (List Nat)} {o k : Nat} {b : Nat} {wt : List Nat} (hwt : ∀ u, wt.head? = some u → u ≠ 10 ∧ u ≠ 11) (hb : b ≤ wt.length) : ∀ (pn : List Nat) (out : gC) (σ : fhM), (∀ x ∈ pn, x = 10 ∨ x = 11) → rG T q nl o k out (pn ++ wt) b σ → out.length + (pn ++ wt).length + 1 ≤ k →
    wq (fhlp (fun x => f_X12_qGoesOnTest_137 x) σ) (fun r => r.1 = true ∧ rG T q nl o k (out ++ pn.map rDec) (11 :: wt) b r.2 ∧ fr rD σ r.2) := by
  have hT2 := hT.1
  intro pn
  induction pn with
  | nil =>
    intro out σ _ h hl
    have h : rG T q nl o k out wt b σ := h
    have hl : out.length + wt.length + 1 ≤ k := hl
    have hk := h.2.1
    refine wq_step ?_
    unfold f_X12_qGoesOnTest_137
    have e10 : f_X12_qIsOn 10 σ = some false := by
      rw [show (10 : Int32) = nI 10 from rfl, r_isOn hT h 10 (by decide), decide_eq_false (fun z => by have := hwt 10 z; omega)]
    have e11 : f_X12_qIsOn 11 σ = some false := by
      rw [show (11 : Int32) = nI 11 from rfl, r_isOn hT h 11 (by decide), decide_eq_false (fun z => by have := hwt 11 z; omega)]
    obtain ⟨a, f⟩ := r_push h 11 (by decide) (by omega)
    rw [e10, wq_bind, wq_some, if_neg (by decide), e11, wq_bind, wq_some, if_neg (by decide), h.2.2.2.2.1.1, if_pos (ph_in1 (by omega) (by omega)), ph_ix (by omega), wq_some, fhK_r]
    have e : (fhI σ 77 wt.length (nI 11)).1 0 101 + (1 : Int32) = nI (wt.length + 1) := by simp (disch := omega) only [fhI_e, fhI_o, fhI_s]; rw [h.2.2.2.2.1.1, nI_1]
    rw [List.map_nil, List.append_nil]
    first
      | exact ⟨rfl, a, f⟩
      | (rw [nI_1]; exact ⟨rfl, a, f⟩)
      | (rw [e]; exact ⟨rfl, a, f⟩)
  | cons x r ih =>
    intro out σ hx h hl
    have h : rG T q nl o k out (x :: (r ++ wt)) b σ := h
    have hl : out.length + ((r ++ wt).length + 1) + 1 ≤ k := hl
    have hbl : b ≤ (r ++ wt).length := by rw [List.length_append]; omega
    have hx0 := hx x List.mem_cons_self
    have hdrop : x ∈ rOps → wq (Option.bind (f_X12_qDrops σ) fun q14 => (some (.inl q14) : Option (fhM ⊕ (Bool × fhM)))) (fhK (fun y => wq (fhlp (fun x => f_X12_qGoesOnTest_137 x) y) (fun r_1 => r_1.1 = true ∧ rG T q nl o k (out ++ (x :: r).map rDec) (11 :: wt) b r_1.2 ∧ fr rD σ r_1.2)) (fun r_1 => r_1.1 = true ∧ rG T q nl o k (out ++ (x :: r).map rDec) (11 :: wt) b r_1.2 ∧ fr rD σ r_1.2)) := by
      intro hxo
      rw [wq_bind]
      refine wq_mono (r_drop hT h hbl hxo) (fun s p => ?_)
      rw [wq_some, fhK_l]
      have := ih (out ++ [rDec x]) s (fun y hy => hx y (List.mem_cons_of_mem _ hy)) p.1 (by rw [List.length_append, List.length_singleton]; omega)
      refine wq_mono this (fun y z => ⟨z.1, ?_, fr_tr p.2 z.2.2⟩)
      have z2 := z.2.1
      rw [List.append_assoc] at z2
      exact z2
    refine wq_step ?_
    unfold f_X12_qGoesOnTest_137 f_X12_qGoesOnTest_155
    rcases hx0 with rfl | rfl
    · have e10 : f_X12_qIsOn 10 σ = some true := by rw [show (10 : Int32) = nI 10 from rfl, r_isOn hT h 10 (by decide)]; rfl
      rw [e10, wq_bind, wq_some, if_pos rfl]
      exact hdrop (by decide)
    · have e10 : f_X12_qIsOn 10 σ = some false := by rw [show (10 : Int32) = nI 10 from rfl, r_isOn hT h 10 (by decide)]; rfl
      have e11 : f_X12_qIsOn 11 σ = some true := by rw [show (11 : Int32) = nI 11 from rfl, r_isOn hT h 11 (by decide)]; rfl
      rw [e10, wq_bind, wq_some, if_neg (by decide), e11, wq_bind, wq_some, if_pos rfl]
      exact hdrop (by decide)
