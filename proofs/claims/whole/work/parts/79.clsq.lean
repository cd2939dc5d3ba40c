/-! the class's parser, in step with the grammar -/
theorem ph_K {K : Nat} (h : fhiK K = true) : K = 6 ∨ K = 16 ∨ K = 28 := by
  unfold fhiK at h
  rw [Bool.or_eq_true, Bool.or_eq_true] at h
  rcases h with h | h | h
  · exact Or.inl (Nat.eq_of_beq_eq_true h)
  · exact Or.inr (Or.inl (Nat.eq_of_beq_eq_true h))
  · exact Or.inr (Or.inr (Nat.eq_of_beq_eq_true h))
theorem ph_P {P : Nat} (h : fhiP P = true) : P = 15 ∨ P = 27 := by
  unfold fhiP at h
  rw [Bool.or_eq_true] at h
  rcases h with h | h
  · exact Or.inl (Nat.eq_of_beq_eq_true h)
  · exact Or.inr (Nat.eq_of_beq_eq_true h)
def gD (K t j : Nat) : Prop := cDf t j ∨ cDk K t j ∨ (t = 9 ∧ j = 4)
/-- the parser's surroundings: the Code K, whether of a question, the names at P -/
def cH (K P : Nat) (q : Bool) (σ : fhM) : Prop := σ.2.2 9 1 = K ∧ σ.2.2 9 2 = P ∧ σ.1 9 3 = (if q = true then 1 else 0) ∧ fhiK K = true ∧ (q = false → fhiP P = true)
def cG (T : tT) (m K P : Nat) (q : Bool) (nl : List (List Nat)) (o k : Nat) (out : gC) (σ : fhM) : Prop := cP T m k σ ∧ k ≤ m ∧ cS K out σ ∧ out.length ≤ k ∧ σ.1 9 4 = nI o ∧ cH K P q σ ∧ (q = false → cN P nl σ)
def cZ (K P : Nat) (q : Bool) (e : Nat × Nat) (σ : fhM) : Prop := cF e σ ∧ cH K P q σ
theorem cP_fr {T : tT} {m k : Nat} {σ σ' : fhM} (h : cP T m k σ) (h3 : ∀ j, σ'.1 3 j = σ.1 3 j) (h5 : ∀ j, σ'.1 5 j = σ.1 5 j) : cP T m k σ' := by
  obtain ⟨a1, a2, a3, a4, a5, a6, a7, a8, a9⟩ := h
  refine ⟨fun j hj => ?_, ?_, ?_, ?_, ?_, ?_, ?_, ?_, fun hk => ?_⟩
  · rw [h5, h5, h5, h5, h5]; exact a1 j hj
  · rw [h3]; exact a2
  · rw [h3]; exact a3
  · rw [h3]; exact a4
  · rw [h3]; exact a5
  · rw [h3]; exact a6
  · rw [h3]; exact a7
  · rw [h3]; exact a8
  · rw [h3, h3]; exact a9 hk
theorem cH_fr {K P : Nat} {q : Bool} {σ σ' : fhM} (h : cH K P q σ) (h2 : σ'.2 = σ.2) (h3 : σ'.1 9 3 = σ.1 9 3) : cH K P q σ' := by
  obtain ⟨a1, a2, a3, a4⟩ := h
  exact ⟨by rw [h2]; exact a1, by rw [h2]; exact a2, by rw [h3]; exact a3, a4⟩
theorem cZ_fr {K P : Nat} {q : Bool} {e : Nat × Nat} {σ σ' : fhM} (h : cZ K P q e σ) (hf : fr (fun t j => cDk K t j ∨ (t = 9 ∧ j = 4)) σ σ') : cZ K P q e σ' := by
  obtain ⟨⟨a1, a2, a3, a4, a5⟩, hh⟩ := h
  have hK := ph_K hh.2.2.2.1
  have e3 : ∀ j, σ'.1 3 j = σ.1 3 j := fun j => hf.2 3 j (by unfold cDk; omega)
  refine ⟨⟨?_, ?_, ?_, a4, a5⟩, cH_fr hh hf.1 (hf.2 9 3 (by unfold cDk; omega))⟩
  · rw [e3]; exact a1
  · rw [e3]; exact a2
  · rw [e3]; exact a3
theorem cZ_add {K P : Nat} {q : Bool} {e : Nat × Nat} {σ : fhM} (h : cZ K P q e σ) (a b : Int32) : cZ K P q e (f_X3_add K a b σ) ∧ fr (gD K) σ (f_X3_add K a b σ) := by
  have hf := c_addN K a b σ
  exact ⟨cZ_fr h (fr_mo hf (fun _ _ q => Or.inl q)), fr_mo hf (fun _ _ q => Or.inr (Or.inl q))⟩
theorem cZ_o {K P : Nat} {q : Bool} {e : Nat × Nat} {σ : fhM} (h : cZ K P q e σ) (x : Int32) : cZ K P q e (fhI σ 9 4 x) ∧ fr (gD K) σ (fhI σ 9 4 x) :=
  ⟨cZ_fr h (fr_I fr_rf (Or.inr ⟨rfl, rfl⟩)), fr_I fr_rf (Or.inr (Or.inr ⟨rfl, rfl⟩))⟩
theorem cG_adv {T : tT} (hT : tOK T) {m K P : Nat} {q : Bool} {nl : List (List Nat)} {o k : Nat} {out : gC} {σ : fhM} (hm : tend T m) (h : cG T m K P q nl o k out σ) (hk : kd T k ≠ 0) : cG T m K P q nl o (k + 1) out (f_X8_advance σ) ∧ fr (gD K) σ (f_X8_advance σ) := by
  obtain ⟨a1, a2, a3, a4, a5, a6, a7⟩ := h
  have hkm := c_kd hm hk
  obtain ⟨b, f⟩ := c_adv hT hm hkm a1
  have hK := ph_K a6.2.2.2.1
  refine ⟨⟨b, by omega, ?_, by omega, ?_, ?_, fun hq => ?_⟩, fr_mo f (fun _ _ z => Or.inl (cDa_f z))⟩
  · exact cS_fr a3 (f.2 _ _ (by unfold cDa; omega)) (fun i => f.2 _ _ (by unfold cDa; omega))
  · rw [f.2 9 4 (by unfold cDa; omega)]; exact a5
  · exact cH_fr a6 f.1 (f.2 9 3 (by unfold cDa; omega))
  · have hP := ph_P (a6.2.2.2.2 hq)
    exact cN_fr (a7 hq) (f.2 _ _ (by unfold cDa; omega)) (fun i => f.2 _ _ (by unfold cDa; omega))
theorem cG_o {T : tT} {m K P : Nat} {q : Bool} {nl : List (List Nat)} {o o' k : Nat} {out : gC} {σ : fhM} (h : cG T m K P q nl o k out σ) : cG T m K P q nl o' k out (fhI σ 9 4 (nI o')) ∧ fr (gD K) σ (fhI σ 9 4 (nI o')) := by
  obtain ⟨a1, a2, a3, a4, a5, a6, a7⟩ := h
  have hK := ph_K a6.2.2.2.1
  refine ⟨⟨?_, a2, ?_, a4, fhI_e, ?_, fun hq => ?_⟩, fr_I fr_rf (Or.inr (Or.inr ⟨rfl, rfl⟩))⟩
  · exact cP_fr a1 (fun j => fhI_o (by omega)) (fun j => fhI_o (by omega))
  · exact cS_fr a3 (fhI_o (by omega)) (fun i => fhI_o (by omega))
  · exact cH_fr a6 rfl (fhI_s (by omega))
  · have hP := ph_P (a6.2.2.2.2 hq)
    exact cN_fr (a7 hq) (fhI_o (by omega)) (fun i => fhI_o (by omega))
theorem cG_add {T : tT} (hT : tOK T) {m K P : Nat} {q : Bool} {nl : List (List Nat)} {o k : Nat} {out : gC} {σ : fhM} (hm : tend T m) (h : cG T m K P q nl o k out σ) (hl : out.length + 1 ≤ k) (c : Nat × Nat) (h1 : c.1 ≤ 15) (h2 : c.2 < 100000) : cG T m K P q nl o k (out ++ [c]) (f_X3_add K (nI (if c.1 = 15 then 0 else c.1)) (nI c.2) σ) ∧ fr (gD K) σ (f_X3_add K (nI (if c.1 = 15 then 0 else c.1)) (nI c.2) σ) := by
  obtain ⟨a1, a2, a3, a4, a5, a6, a7⟩ := h
  have hK := ph_K a6.2.2.2.1
  have hT2 := hT.1
  have hm1 := hm.1
  have f := c_addN K (nI (if c.1 = 15 then 0 else c.1)) (nI c.2) σ
  refine ⟨⟨?_, a2, ?_, ?_, ?_, ?_, fun hq => ?_⟩, fr_mo f (fun _ _ z => Or.inr (Or.inl z))⟩
  · exact cP_fr a1 (fun j => f.2 _ _ (by unfold cDk; omega)) (fun j => f.2 _ _ (by unfold cDk; omega))
  · exact c_add a6.2.2.2.1 a3 (by omega) c h1 h2
  · rw [List.length_append, List.length_singleton]; exact hl
  · rw [f.2 9 4 (by unfold cDk; omega)]; exact a5
  · exact cH_fr a6 f.1 (f.2 9 3 (by unfold cDk; omega))
  · have hP := ph_P (a6.2.2.2.2 hq)
    exact cN_fr (a7 hq) (f.2 _ _ (by unfold cDk; omega)) (fun i => f.2 _ _ (by unfold cDk; omega))
/-- a fault out of a good state -/
theorem cG_bad {T : tT} {m K P : Nat} {q : Bool} {nl : List (List Nat)} {o k : Nat} {out : gC} {σ σ' : fhM} {e : Nat × Nat} (h : cG T m K P q nl o k out σ) (hf : cF e σ') (hr : fr cDf σ σ') : cZ K P q e σ' ∧ fr (gD K) σ σ' :=
  ⟨⟨hf, cH_fr h.2.2.2.2.2.1 hr.1 (hr.2 9 3 (by unfold cDf; omega))⟩, fr_mo hr (fun _ _ z => Or.inl z)⟩
theorem cH_K {K P : Nat} {q : Bool} {σ : fhM} (h : cH K P q σ) : fhiK (σ.2.2 9 1) = true := by rw [h.1]; exact h.2.2.2.1
theorem cG_K {T : tT} {m K P : Nat} {q : Bool} {nl : List (List Nat)} {o k : Nat} {out : gC} {σ : fhM} (h : cG T m K P q nl o k out σ) : fhiK (σ.2.2 9 1) = true ∧ σ.2.2 9 1 = K := ⟨cH_K h.2.2.2.2.2.1, h.2.2.2.2.2.1.1⟩
/-- opening deeper -/
theorem cG_deep {T : tT} (hT : tOK T) {m K P : Nat} {q : Bool} {nl : List (List Nat)} {o k : Nat} {out : gC} {σ : fhM} (hm : tend T m) (h : cG T m K P q nl o k out σ) (ho : o ≤ 6) (hk : kd T k ≠ 0) :
    (o < 6 → (f_X5_goDeeper σ).1 = true ∧ cG T m K P q nl (o + 1) (k + 1) out (f_X5_goDeeper σ).2) ∧ (6 ≤ o → (f_X5_goDeeper σ).1 = false ∧ cZ K P q (4, fm T k) (f_X5_goDeeper σ).2) ∧ fr (gD K) σ (f_X5_goDeeper σ).2 := by
  unfold f_X5_goDeeper fhlet
  (try dsimp only)
  rw [h.2.2.2.2.1]
  by_cases q1 : o < 6
  · rw [if_pos (show nI o < (6 : Int32) from nI_lt (b := 6) q1 (by decide)), nI_1]
    obtain ⟨a, b⟩ := cG_o (o' := o + 1) h
    obtain ⟨c, d⟩ := cG_adv hT hm a hk
    exact ⟨fun _ => ⟨rfl, c⟩, fun z => by omega, fr_tr b d⟩
  · rw [if_neg (show ¬ nI o < (6 : Int32) from nI_nlt (b := 6) (by omega) (by omega)), h.1.2.2.2.2.2.1]
    obtain ⟨a, b⟩ := c_fail (e := (4, fm T k)) h.1 ⟨Nat.le_of_ble_eq_true rfl, Nat.le_of_ble_eq_true rfl⟩
    obtain ⟨c, d⟩ := cG_bad h a b
    exact ⟨fun z => by omega, fun _ => ⟨rfl, c⟩, d⟩
/-! behind a fault nothing more is told -/
theorem cZ_lk {K P : Nat} {q : Bool} {e : Nat × Nat} {σ : fhM} (h : cZ K P q e σ) : f_X5_isLookingWord σ = false := by
  unfold f_X5_isLookingWord
  rw [c_isWordN h.1, c_isWordN h.1, c_isWordN h.1]
  split <;> rfl
theorem cZ_leaf {K P : Nat} {q : Bool} {e : Nat × Nat} {σ : fhM} (h : cZ K P q e σ) : wq (f_X5_leaf σ) (fun s => cZ K P q e s ∧ fr (gD K) σ s) := by
  have h83 : ∀ v, wq (f_X5_leaf_83 v σ) (fun s => cZ K P q e s ∧ fr (gD K) σ s) := by
    intro v
    unfold f_X5_leaf_83
    by_cases q1 : v = (-1 : Int32)
    · rw [if_pos q1, wq_let, wq_some, c_failHereN h.1]
      exact ⟨h, fr_rf⟩
    · obtain ⟨a, b⟩ := cZ_add h 1 v
      rw [if_neg q1, if_pos (cH_K h.2), wq_let, wq_let, wq_some, h.2.1, c_advN a.1]
      exact ⟨a, b⟩
  have hw : f_X8_wordHere σ = 99 := by
    unfold f_X8_wordHere
    rw [h.1.2.2.1, if_neg (by decide)]
  unfold f_X5_leaf
  rw [hw, h.2.2.2.1]
  cases q with
  | true =>
    rw [if_pos rfl, if_neg (by decide), if_neg (by decide), if_pos (by decide)]
    unfold f_X5_leaf_36 f_X5_leaf_37
    exact h83 _
  | false =>
    rw [if_neg (show ¬ false = true by decide), if_pos (show (0 : Int32) = 0 from rfl), if_neg (by decide), if_pos (by decide)]
    unfold f_X5_leaf_61
    have hP := h.2.2.2.2.2 rfl
    have hP2 := ph_P hP
    rw [h.2.2.1, if_neg (by omega), if_pos hP, wq_bind]
    obtain ⟨v, hv⟩ := c_gnN P (f_X8_lettersHere σ) σ
    rw [hv, wq_some]
    exact h83 v
theorem cZ_part {K P : Nat} {q : Bool} {e : Nat × Nat} {d : Nat} {a : Int32} {σ : fhM} (hd : 1 ≤ d) (h : cZ K P q e σ) : wq (fgR d 5 a σ) (fun s => cZ K P q e s ∧ fr (gD K) σ s) := by
  obtain ⟨d, rfl⟩ : ∃ d', d = d' + 1 := ⟨d - 1, by omega⟩
  show wq (f_X5_part (fgR d) σ) _
  unfold f_X5_part
  rw [c_isNumberN h.1, c_isSignN h.1, c_isWordN h.1, c_isWordN h.1, cZ_lk h]
  rw [if_neg (by decide), if_neg (by decide), if_neg (by decide), if_neg (by decide), if_neg (by decide), wq_bind]
  refine wq_mono (cZ_leaf h) (fun s p => ?_)
  rw [wq_some]
  exact p
theorem cZ_product {K P : Nat} {q : Bool} {e : Nat × Nat} {d : Nat} {a : Int32} {σ : fhM} (hd : 2 ≤ d) (h : cZ K P q e σ) : wq (fgR d 4 a σ) (fun s => cZ K P q e s ∧ fr (gD K) σ s) := by
  obtain ⟨d, rfl⟩ : ∃ d', d = d' + 1 := ⟨d - 1, by omega⟩
  show wq (f_X5_product (fgR d) σ) _
  unfold f_X5_product
  rw [wq_bind]
  refine wq_mono (cZ_part (by omega) h) (fun s p => ?_)
  refine wq_step ?_
  dsimp only
  unfold f_X5_product_6
  rw [c_isSignN p.1.1, c_isSignN p.1.1, if_neg (show ¬ (1600 : Int32) ≤ 0 by decide), if_neg (by decide), if_neg (by decide), wq_some, fhK_r]
  exact p
theorem cZ_sum {K P : Nat} {q : Bool} {e : Nat × Nat} {d : Nat} {a : Int32} {σ : fhM} (hd : 3 ≤ d) (h : cZ K P q e σ) : wq (fgR d 3 a σ) (fun s => cZ K P q e s ∧ fr (gD K) σ s) := by
  obtain ⟨d, rfl⟩ : ∃ d', d = d' + 1 := ⟨d - 1, by omega⟩
  show wq (f_X5_sum (fgR d) σ) _
  unfold f_X5_sum
  rw [wq_bind]
  refine wq_mono (cZ_product (by omega) h) (fun s p => ?_)
  refine wq_step ?_
  dsimp only
  unfold f_X5_sum_6
  rw [c_isSignN p.1.1, c_isSignN p.1.1, if_neg (show ¬ (1600 : Int32) ≤ 0 by decide), if_neg (by decide), if_neg (by decide), wq_some, fhK_r]
  exact p
theorem cZ_sign {K P : Nat} {q : Bool} {e : Nat × Nat} {σ : fhM} (h : cZ K P q e σ) : (f_X5_signHere σ).2 = σ := by
  unfold f_X5_signHere f_X5_signHere_49 fhlet
  (try dsimp only)
  rw [c_isSignN h.1, c_isSignN h.1, c_isSignN h.1, if_neg (by decide), if_neg (by decide), if_neg (by decide)]
  exact c_failHereN h.1
theorem cZ_claim {K P : Nat} {q : Bool} {e : Nat × Nat} {d : Nat} {a : Int32} {σ : fhM} (hd : 4 ≤ d) (h : cZ K P q e σ) : wq (fgR d 2 a σ) (fun s => cZ K P q e s ∧ fr (gD K) σ s) := by
  obtain ⟨d, rfl⟩ : ∃ d', d = d' + 1 := ⟨d - 1, by omega⟩
  show wq (f_X5_claim (fgR d) σ) _
  unfold f_X5_claim
  rw [c_isSignN h.1, c_isWordN h.1, c_isWordN h.1, if_neg (by decide), if_neg (by decide), if_neg (by decide), wq_bind]
  refine wq_mono (cZ_sum (by omega) h) (fun s p => ?_)
  rw [wq_let, wq_let, cZ_sign p.1, c_advN p.1.1, wq_bind]
  refine wq_mono (cZ_sum (by omega) p.1) (fun s2 p2 => ?_)
  obtain ⟨b, f⟩ := cZ_add p2.1 (f_X5_signHere s).1 0
  rw [if_pos (cH_K p2.1.2), wq_let, wq_some, p2.1.2.1]
  exact ⟨b, fr_tr (fr_tr p.2 p2.2) f⟩
theorem cZ_both {K P : Nat} {q : Bool} {e : Nat × Nat} {d : Nat} {a : Int32} {σ : fhM} (hd : 5 ≤ d) (h : cZ K P q e σ) : wq (fgR d 1 a σ) (fun s => cZ K P q e s ∧ fr (gD K) σ s) := by
  obtain ⟨d, rfl⟩ : ∃ d', d = d' + 1 := ⟨d - 1, by omega⟩
  show wq (f_X5_both (fgR d) σ) _
  unfold f_X5_both
  rw [wq_bind]
  refine wq_mono (cZ_claim (by omega) h) (fun s p => ?_)
  refine wq_step ?_
  dsimp only
  unfold f_X5_both_6
  rw [c_isWordN p.1.1, if_neg (show ¬ (1600 : Int32) ≤ 0 by decide), if_neg (by decide), wq_some, fhK_r]
  exact p
theorem cZ_test {K P : Nat} {q : Bool} {e : Nat × Nat} {d : Nat} {a : Int32} {σ : fhM} (hd : 6 ≤ d) (h : cZ K P q e σ) : wq (fgR d 0 a σ) (fun s => cZ K P q e s ∧ fr (gD K) σ s) := by
  obtain ⟨d, rfl⟩ : ∃ d', d = d' + 1 := ⟨d - 1, by omega⟩
  show wq (f_X5_test (fgR d) σ) _
  unfold f_X5_test
  rw [wq_bind]
  refine wq_mono (cZ_both (by omega) h) (fun s p => ?_)
  refine wq_step ?_
  dsimp only
  unfold f_X5_test_6
  rw [c_isWordN p.1.1, if_neg (show ¬ (1600 : Int32) ≤ 0 by decide), if_neg (by decide), wq_some, fhK_r]
  exact p
/-- what the class comes to -/
def gP (T : tT) (m K P : Nat) (q : Bool) (nl : List (List Nat)) (o : Nat) (out : gC) (r : (Nat × Nat) ⊕ (Nat × gC)) (σ s : fhM) : Prop := (match r with
  | .inl e => cZ K P q e s
  | .inr x => cG T m K P q nl o x.1 (out ++ x.2) s) ∧ fr (gD K) σ s
theorem gP_fr {T : tT} {m K P : Nat} {q : Bool} {nl : List (List Nat)} {o : Nat} {out : gC} {r : (Nat × Nat) ⊕ (Nat × gC)} {σ0 σ s : fhM} (h : gP T m K P q nl o out r σ s) (hf : fr (gD K) σ0 σ) : gP T m K P q nl o out r σ0 s := ⟨h.1, fr_tr hf h.2⟩
theorem gP_out {T : tT} {m K P : Nat} {q : Bool} {nl : List (List Nat)} {o k : Nat} {out c c2 : gC} {σ s : fhM} (h : gP T m K P q nl o (out ++ c) (.inr (k, c2)) σ s) : gP T m K P q nl o out (.inr (k, c ++ c2)) σ s := by
  obtain ⟨h1, h2⟩ := h
  refine ⟨?_, h2⟩
  have h1 : cG T m K P q nl o k (out ++ c ++ c2) s := h1
  show cG T m K P q nl o k (out ++ (c ++ c2)) s
  rw [← List.append_assoc]
  exact h1
def glv (w o : Nat) : Nat := (match w with | 0 => 7 | 1 => 6 | 2 => 5 | 3 => 4 | 4 => 3 | 5 => 2 | 6 => 6 | 7 => 5 | 8 => 3 | _ => 2) + 4 * (6 - o)
/-- the claim, for one of the parser's methods -/
def gA (T : tT) (m K P : Nat) (q : Bool) (nl : List (List Nat)) (n w o k : Nat) : Prop := ∀ (r : (Nat × Nat) ⊕ (Nat × gC)), rd T q nl n w o k = some r → ∀ (d i : Nat) (σ : fhM) (out : gC), glv w o ≤ d → o ≤ 6 → cG T m K P q nl o k out σ → i ≤ k → wq (match w with
  | 0 => fgR d 0 0 σ
  | 1 => fgR d 1 0 σ
  | 2 => fgR d 2 0 σ
  | 3 => fgR d 3 0 σ
  | 4 => fgR d 4 0 σ
  | 5 => fgR d 5 0 σ
  | 6 => fhlp (fun x => f_X5_test_6 (fgR d) x.1 x.2) (nI i, σ)
  | 7 => fhlp (fun x => f_X5_both_6 (fgR d) x.1 x.2) (nI i, σ)
  | 8 => fhlp (fun x => f_X5_sum_6 (fgR d) x.1 x.2) (nI i, σ)
  | _ => fhlp (fun x => f_X5_product_6 (fgR d) x.1 x.2) (nI i, σ)) (gP T m K P q nl o out r σ)
section
variable {T : tT} {m K P : Nat} {q : Bool} {nl : List (List Nat)} {n : Nat}
theorem gA_test {o k : Nat} (ih : ∀ w o k, gA T m K P q nl n w o k) : gA T m K P q nl (n + 1) 0 o k := by
  intro r hr d i σ out hd ho h hi
  obtain ⟨d, rfl⟩ : ∃ d', d = d' + 1 := ⟨d - 1, by simp only [glv] at hd; omega⟩
  show wq (f_X5_test (fgR d) σ) _
  unfold f_X5_test
  rw [wq_bind]
  have hr : sq (rd T q nl n 1 o k) (fun k => rd T q nl n 6 o k) = some r := hr
  rcases sq_some hr with ⟨e, h1, rfl⟩ | ⟨j, c, h1, h2⟩
  · refine wq_mono (ih 1 o k _ h1 d i σ out (by simp only [glv] at hd ⊢; omega) ho h hi) (fun s p => ?_)
    have p : cZ K P q e s ∧ fr (gD K) σ s := p
    refine wq_step ?_
    dsimp only
    unfold f_X5_test_6
    rw [c_isWordN p.1.1, if_neg (show ¬ (1600 : Int32) ≤ 0 by decide), if_neg (by decide), wq_some, fhK_r]
    exact p
  · refine wq_mono (ih 1 o k _ h1 d i σ out (by simp only [glv] at hd ⊢; omega) ho h hi) (fun s p => ?_)
    have p1 : cG T m K P q nl o j (out ++ c) s := p.1
    rcases h2 with ⟨e, h2, rfl⟩ | ⟨k2, c2, h2, rfl⟩
    · exact wq_mono (ih 6 o j _ h2 d 0 s (out ++ c) (by simp only [glv] at hd ⊢; omega) ho p1 (Nat.zero_le _)) (fun s2 p2 => gP_fr ⟨p2.1, p2.2⟩ p.2)
    · exact wq_mono (ih 6 o j _ h2 d 0 s (out ++ c) (by simp only [glv] at hd ⊢; omega) ho p1 (Nat.zero_le _)) (fun s2 p2 => gP_fr (gP_out p2) p.2)
theorem gA_both {o k : Nat} (ih : ∀ w o k, gA T m K P q nl n w o k) : gA T m K P q nl (n + 1) 1 o k := by
  intro r hr d i σ out hd ho h hi
  obtain ⟨d, rfl⟩ : ∃ d', d = d' + 1 := ⟨d - 1, by simp only [glv] at hd; omega⟩
  show wq (f_X5_both (fgR d) σ) _
  unfold f_X5_both
  rw [wq_bind]
  have hr : sq (rd T q nl n 2 o k) (fun k => rd T q nl n 7 o k) = some r := hr
  rcases sq_some hr with ⟨e, h1, rfl⟩ | ⟨j, c, h1, h2⟩
  · refine wq_mono (ih 2 o k _ h1 d i σ out (by simp only [glv] at hd ⊢; omega) ho h hi) (fun s p => ?_)
    have p : cZ K P q e s ∧ fr (gD K) σ s := p
    refine wq_step ?_
    dsimp only
    unfold f_X5_both_6
    rw [c_isWordN p.1.1, if_neg (show ¬ (1600 : Int32) ≤ 0 by decide), if_neg (by decide), wq_some, fhK_r]
    exact p
  · refine wq_mono (ih 2 o k _ h1 d i σ out (by simp only [glv] at hd ⊢; omega) ho h hi) (fun s p => ?_)
    have p1 : cG T m K P q nl o j (out ++ c) s := p.1
    rcases h2 with ⟨e, h2, rfl⟩ | ⟨k2, c2, h2, rfl⟩
    · exact wq_mono (ih 7 o j _ h2 d 0 s (out ++ c) (by simp only [glv] at hd ⊢; omega) ho p1 (Nat.zero_le _)) (fun s2 p2 => gP_fr ⟨p2.1, p2.2⟩ p.2)
    · exact wq_mono (ih 7 o j _ h2 d 0 s (out ++ c) (by simp only [glv] at hd ⊢; omega) ho p1 (Nat.zero_le _)) (fun s2 p2 => gP_fr (gP_out p2) p.2)
theorem gA_sum {o k : Nat} (ih : ∀ w o k, gA T m K P q nl n w o k) : gA T m K P q nl (n + 1) 3 o k := by
  intro r hr d i σ out hd ho h hi
  obtain ⟨d, rfl⟩ : ∃ d', d = d' + 1 := ⟨d - 1, by simp only [glv] at hd; omega⟩
  show wq (f_X5_sum (fgR d) σ) _
  unfold f_X5_sum
  rw [wq_bind]
  have hr : sq (rd T q nl n 4 o k) (fun k => rd T q nl n 8 o k) = some r := hr
  rcases sq_some hr with ⟨e, h1, rfl⟩ | ⟨j, c, h1, h2⟩
  · refine wq_mono (ih 4 o k _ h1 d i σ out (by simp only [glv] at hd ⊢; omega) ho h hi) (fun s p => ?_)
    have p : cZ K P q e s ∧ fr (gD K) σ s := p
    refine wq_step ?_
    dsimp only
    unfold f_X5_sum_6
    rw [c_isSignN p.1.1, c_isSignN p.1.1, if_neg (show ¬ (1600 : Int32) ≤ 0 by decide), if_neg (by decide), if_neg (by decide), wq_some, fhK_r]
    exact p
  · refine wq_mono (ih 4 o k _ h1 d i σ out (by simp only [glv] at hd ⊢; omega) ho h hi) (fun s p => ?_)
    have p1 : cG T m K P q nl o j (out ++ c) s := p.1
    rcases h2 with ⟨e, h2, rfl⟩ | ⟨k2, c2, h2, rfl⟩
    · exact wq_mono (ih 8 o j _ h2 d 0 s (out ++ c) (by simp only [glv] at hd ⊢; omega) ho p1 (Nat.zero_le _)) (fun s2 p2 => gP_fr ⟨p2.1, p2.2⟩ p.2)
    · exact wq_mono (ih 8 o j _ h2 d 0 s (out ++ c) (by simp only [glv] at hd ⊢; omega) ho p1 (Nat.zero_le _)) (fun s2 p2 => gP_fr (gP_out p2) p.2)
theorem gA_product {o k : Nat} (ih : ∀ w o k, gA T m K P q nl n w o k) : gA T m K P q nl (n + 1) 4 o k := by
  intro r hr d i σ out hd ho h hi
  obtain ⟨d, rfl⟩ : ∃ d', d = d' + 1 := ⟨d - 1, by simp only [glv] at hd; omega⟩
  show wq (f_X5_product (fgR d) σ) _
  unfold f_X5_product
  rw [wq_bind]
  have hr : sq (rd T q nl n 5 o k) (fun k => rd T q nl n 9 o k) = some r := hr
  rcases sq_some hr with ⟨e, h1, rfl⟩ | ⟨j, c, h1, h2⟩
  · refine wq_mono (ih 5 o k _ h1 d i σ out (by simp only [glv] at hd ⊢; omega) ho h hi) (fun s p => ?_)
    have p : cZ K P q e s ∧ fr (gD K) σ s := p
    refine wq_step ?_
    dsimp only
    unfold f_X5_product_6
    rw [c_isSignN p.1.1, c_isSignN p.1.1, if_neg (show ¬ (1600 : Int32) ≤ 0 by decide), if_neg (by decide), if_neg (by decide), wq_some, fhK_r]
    exact p
  · refine wq_mono (ih 5 o k _ h1 d i σ out (by simp only [glv] at hd ⊢; omega) ho h hi) (fun s p => ?_)
    have p1 : cG T m K P q nl o j (out ++ c) s := p.1
    rcases h2 with ⟨e, h2, rfl⟩ | ⟨k2, c2, h2, rfl⟩
    · exact wq_mono (ih 9 o j _ h2 d 0 s (out ++ c) (by simp only [glv] at hd ⊢; omega) ho p1 (Nat.zero_le _)) (fun s2 p2 => gP_fr ⟨p2.1, p2.2⟩ p.2)
    · exact wq_mono (ih 9 o j _ h2 d 0 s (out ++ c) (by simp only [glv] at hd ⊢; omega) ho p1 (Nat.zero_le _)) (fun s2 p2 => gP_fr (gP_out p2) p.2)
theorem gA_testR (hT : tOK T) (hm : tend T m) {o k : Nat} (ih : ∀ w o k, gA T m K P q nl n w o k) : gA T m K P q nl (n + 1) 6 o k := by
  intro r hr d i σ out hd ho h hi
  show wq (fhlp (fun x => f_X5_test_6 (fgR d) x.1 x.2) (nI i, σ)) _
  refine wq_step ?_
  dsimp only
  unfold f_X5_test_6
  have hr : gif (isw T k 20) _ _ = some r := hr
  have hT2 := hT.1
  have hm1 := hm.1
  have hk := h.2.1
  rcases gif_some hr with ⟨q1, hr⟩ | ⟨q1, hr⟩
  · have hk0 := isw_k q1
    have hkm := c_kd hm hk0
    rw [if_neg (show ¬ (1600 : Int32) ≤ nI i from nI_ge (b := 1600) (by omega) (by decide)), if_pos (show f_X8_isWord 20 σ = true by rw [show (20 : Int32) = nI 20 from rfl, c_isWord hm h.1 (by decide)]; exact q1), wq_let, wq_bind]
    obtain ⟨a, f⟩ := cG_adv hT hm h hk0
    rcases sq_some hr with ⟨e, h1, rfl⟩ | ⟨j, c, h1, h2⟩
    · refine wq_mono (ih 1 o (k + 1) _ h1 d 0 _ out (by simp only [glv] at hd ⊢; omega) ho a (Nat.zero_le _)) (fun s p => ?_)
      have p1 : cZ K P q e s := p.1
      obtain ⟨b, g⟩ := cZ_add p1 14 0
      rw [if_pos (cH_K p1.2), wq_let, wq_some, fhK_l, p1.2.1]
      refine wq_step ?_
      (try dsimp only)
      (try unfold f_X5_test_6)
      (try dsimp only)
      rw [c_isWordN b.1, nI_1]
      split
      · rw [wq_some, fhK_r]; exact ⟨b, fr_tr (fr_tr f p.2) g⟩
      · rw [if_neg (by decide), wq_some, fhK_r]; exact ⟨b, fr_tr (fr_tr f p.2) g⟩
    · have hfit := rd_fit T q nl n 1 o (k + 1) _ h1
      have hfit : k + 1 + 1 ≤ j ∧ k + 1 + c.length ≤ j := hfit
      have hl := h.2.2.2.1
      refine wq_mono (ih 1 o (k + 1) _ h1 d 0 _ out (by simp only [glv] at hd ⊢; omega) ho a (Nat.zero_le _)) (fun s p => ?_)
      have p1 : cG T m K P q nl o j (out ++ c) s := p.1
      obtain ⟨b, g⟩ := cG_add hT hm p1 (by rw [List.length_append]; omega) (14, 0) (by decide) (by decide)
      have b : cG T m K P q nl o j (out ++ c ++ [(14, 0)]) (f_X3_add K 14 0 s) := b
      have g : fr (gD K) s (f_X3_add K 14 0 s) := g
      rw [if_pos (cG_K p1).1, wq_let, wq_some, fhK_l, (cG_K p1).2, nI_1]
      rcases h2 with ⟨e, h2, rfl⟩ | ⟨k2, c2, h2, rfl⟩
      · rcases sq_some h2 with ⟨e2, h3, e1⟩ | ⟨j2, c3, h3, h4⟩
        · cases h3
        · cases h3
          rcases h4 with ⟨e2, h4, e1⟩ | ⟨k3, c4, h4, e1⟩
          · cases e1
            exact wq_mono (ih 6 o j _ h4 d (i + 1) _ _ (by simp only [glv] at hd ⊢; omega) ho b (by omega)) (fun s2 p2 => gP_fr ⟨p2.1, p2.2⟩ (fr_tr (fr_tr f p.2) g))
          · cases e1
      · rcases sq_some h2 with ⟨e2, h3, e1⟩ | ⟨j2, c3, h3, h4⟩
        · cases h3
        · cases h3
          rcases h4 with ⟨e2, h4, e1⟩ | ⟨k3, c4, h4, e1⟩
          · cases e1
          · cases e1
            exact wq_mono (ih 6 o j _ h4 d (i + 1) _ _ (by simp only [glv] at hd ⊢; omega) ho b (by omega)) (fun s2 p2 => gP_fr (gP_out (gP_out p2)) (fr_tr (fr_tr f p.2) g))
  · rw [gok_some hr]
    have e : gP T m K P q nl o out (.inr (k, [])) σ σ := ⟨by show cG T m K P q nl o k (out ++ []) σ; rw [List.append_nil]; exact h, fr_rf⟩
    split
    · rw [wq_some, fhK_r]; exact e
    · rw [if_neg (show ¬ f_X8_isWord 20 σ = true by rw [show (20 : Int32) = nI 20 from rfl, c_isWord hm h.1 (by decide)]; exact q1), wq_some, fhK_r]; exact e
theorem gA_bothR (hT : tOK T) (hm : tend T m) {o k : Nat} (ih : ∀ w o k, gA T m K P q nl n w o k) : gA T m K P q nl (n + 1) 7 o k := by
  intro r hr d i σ out hd ho h hi
  show wq (fhlp (fun x => f_X5_both_6 (fgR d) x.1 x.2) (nI i, σ)) _
  refine wq_step ?_
  dsimp only
  unfold f_X5_both_6
  have hr : gif (isw T k 21) _ _ = some r := hr
  have hT2 := hT.1
  have hm1 := hm.1
  have hk := h.2.1
  rcases gif_some hr with ⟨q1, hr⟩ | ⟨q1, hr⟩
  · have hk0 := isw_k q1
    have hkm := c_kd hm hk0
    rw [if_neg (show ¬ (1600 : Int32) ≤ nI i from nI_ge (b := 1600) (by omega) (by decide)), if_pos (show f_X8_isWord 21 σ = true by rw [show (21 : Int32) = nI 21 from rfl, c_isWord hm h.1 (by decide)]; exact q1), wq_let, wq_bind]
    obtain ⟨a, f⟩ := cG_adv hT hm h hk0
    rcases sq_some hr with ⟨e, h1, rfl⟩ | ⟨j, c, h1, h2⟩
    · refine wq_mono (ih 2 o (k + 1) _ h1 d 0 _ out (by simp only [glv] at hd ⊢; omega) ho a (Nat.zero_le _)) (fun s p => ?_)
      have p1 : cZ K P q e s := p.1
      obtain ⟨b, g⟩ := cZ_add p1 13 0
      rw [if_pos (cH_K p1.2), wq_let, wq_some, fhK_l, p1.2.1]
      refine wq_step ?_
      (try dsimp only)
      (try unfold f_X5_both_6)
      (try dsimp only)
      rw [c_isWordN b.1, nI_1]
      split
      · rw [wq_some, fhK_r]; exact ⟨b, fr_tr (fr_tr f p.2) g⟩
      · rw [if_neg (by decide), wq_some, fhK_r]; exact ⟨b, fr_tr (fr_tr f p.2) g⟩
    · have hfit := rd_fit T q nl n 2 o (k + 1) _ h1
      have hfit : k + 1 + 1 ≤ j ∧ k + 1 + c.length ≤ j := hfit
      have hl := h.2.2.2.1
      refine wq_mono (ih 2 o (k + 1) _ h1 d 0 _ out (by simp only [glv] at hd ⊢; omega) ho a (Nat.zero_le _)) (fun s p => ?_)
      have p1 : cG T m K P q nl o j (out ++ c) s := p.1
      obtain ⟨b, g⟩ := cG_add hT hm p1 (by rw [List.length_append]; omega) (13, 0) (by decide) (by decide)
      have b : cG T m K P q nl o j (out ++ c ++ [(13, 0)]) (f_X3_add K 13 0 s) := b
      have g : fr (gD K) s (f_X3_add K 13 0 s) := g
      rw [if_pos (cG_K p1).1, wq_let, wq_some, fhK_l, (cG_K p1).2, nI_1]
      rcases h2 with ⟨e, h2, rfl⟩ | ⟨k2, c2, h2, rfl⟩
      · rcases sq_some h2 with ⟨e2, h3, e1⟩ | ⟨j2, c3, h3, h4⟩
        · cases h3
        · cases h3
          rcases h4 with ⟨e2, h4, e1⟩ | ⟨k3, c4, h4, e1⟩
          · cases e1
            exact wq_mono (ih 7 o j _ h4 d (i + 1) _ _ (by simp only [glv] at hd ⊢; omega) ho b (by omega)) (fun s2 p2 => gP_fr ⟨p2.1, p2.2⟩ (fr_tr (fr_tr f p.2) g))
          · cases e1
      · rcases sq_some h2 with ⟨e2, h3, e1⟩ | ⟨j2, c3, h3, h4⟩
        · cases h3
        · cases h3
          rcases h4 with ⟨e2, h4, e1⟩ | ⟨k3, c4, h4, e1⟩
          · cases e1
          · cases e1
            exact wq_mono (ih 7 o j _ h4 d (i + 1) _ _ (by simp only [glv] at hd ⊢; omega) ho b (by omega)) (fun s2 p2 => gP_fr (gP_out (gP_out p2)) (fr_tr (fr_tr f p.2) g))
  · rw [gok_some hr]
    have e : gP T m K P q nl o out (.inr (k, [])) σ σ := ⟨by show cG T m K P q nl o k (out ++ []) σ; rw [List.append_nil]; exact h, fr_rf⟩
    split
    · rw [wq_some, fhK_r]; exact e
    · rw [if_neg (show ¬ f_X8_isWord 21 σ = true by rw [show (21 : Int32) = nI 21 from rfl, c_isWord hm h.1 (by decide)]; exact q1), wq_some, fhK_r]; exact e
theorem gA_sumR (hT : tOK T) (hm : tend T m) {o k : Nat} (ih : ∀ w o k, gA T m K P q nl n w o k) : gA T m K P q nl (n + 1) 8 o k := by
  intro r hr d i σ out hd ho h hi
  show wq (fhlp (fun x => f_X5_sum_6 (fgR d) x.1 x.2) (nI i, σ)) _
  have hr : gif (isg T k 43) _ _ = some r := hr
  have hT2 := hT.1
  have hm1 := hm.1
  have hk := h.2.1
  have s1 : ∀ (z : isg T k 43), f_X8_isSign 43 σ = true := fun z => by rw [show (43 : Int32) = nI 43 from rfl, c_isSign hT hm h.1 (by decide)]; exact z
  have s1n : ∀ (z : ¬ isg T k 43), ¬ f_X8_isSign 43 σ = true := fun z => by rw [show (43 : Int32) = nI 43 from rfl, c_isSign hT hm h.1 (by decide)]; exact z
  have s2 : ∀ (z : isg T k 45), f_X8_isSign 45 σ = true := fun z => by rw [show (45 : Int32) = nI 45 from rfl, c_isSign hT hm h.1 (by decide)]; exact z
  have s2n : ∀ (z : ¬ isg T k 45), ¬ f_X8_isSign 45 σ = true := fun z => by rw [show (45 : Int32) = nI 45 from rfl, c_isSign hT hm h.1 (by decide)]; exact z
  have go : ∀ op : Nat, op ≤ 14 → kd T k ≠ 0 → sq (rd T q nl n 4 o (k + 1)) (fun k => sq (gok k [(op, 0)]) (fun k => rd T q nl n 8 o k)) = some r → wq (f_X5_sum_54 (fgR d) (nI i) (nI op) σ) (fhK (fun y => wq (fhlp (fun x => f_X5_sum_6 (fgR d) x.1 x.2) y) (gP T m K P q nl o out r σ)) (gP T m K P q nl o out r σ)) := by
    intro op hop hk0 hr
    have hkm := c_kd hm hk0
    unfold f_X5_sum_54
    rw [wq_let, wq_bind]
    obtain ⟨a, f⟩ := cG_adv hT hm h hk0
    rcases sq_some hr with ⟨e, h1, rfl⟩ | ⟨j, c, h1, h2⟩
    · refine wq_mono (ih 4 o (k + 1) _ h1 d 0 _ out (by simp only [glv] at hd ⊢; omega) ho a (Nat.zero_le _)) (fun s p => ?_)
      have p1 : cZ K P q e s := p.1
      obtain ⟨b, g⟩ := cZ_add p1 (nI op) 0
      rw [if_pos (cH_K p1.2), wq_let, wq_some, fhK_l, p1.2.1]
      refine wq_step ?_
      dsimp only
      unfold f_X5_sum_6
      rw [c_isSignN b.1, c_isSignN b.1, nI_1]
      split
      · rw [wq_some, fhK_r]; exact ⟨b, fr_tr (fr_tr f p.2) g⟩
      · rw [if_neg (by decide), if_neg (by decide), wq_some, fhK_r]; exact ⟨b, fr_tr (fr_tr f p.2) g⟩
    · have hfit := rd_fit T q nl n 4 o (k + 1) _ h1
      have hfit : k + 1 + 1 ≤ j ∧ k + 1 + c.length ≤ j := hfit
      have hl := h.2.2.2.1
      refine wq_mono (ih 4 o (k + 1) _ h1 d 0 _ out (by simp only [glv] at hd ⊢; omega) ho a (Nat.zero_le _)) (fun s p => ?_)
      have p1 : cG T m K P q nl o j (out ++ c) s := p.1
      obtain ⟨b, g⟩ := cG_add hT hm p1 (by rw [List.length_append]; omega) (op, 0) (by omega) (Nat.le_of_ble_eq_true rfl)
      have e15 : (if (op, 0).1 = 15 then 0 else (op, 0).1) = op := if_neg (by show ¬ op = 15; omega)
      rw [e15] at b g
      have b : cG T m K P q nl o j (out ++ c ++ [(op, 0)]) (f_X3_add K (nI op) 0 s) := b
      have g : fr (gD K) s (f_X3_add K (nI op) 0 s) := g
      rw [if_pos (cG_K p1).1, wq_let, wq_some, fhK_l, (cG_K p1).2, nI_1]
      rcases h2 with ⟨e, h2, rfl⟩ | ⟨k2, c2, h2, rfl⟩
      · rcases sq_some h2 with ⟨e2, h3, e1⟩ | ⟨j2, c3, h3, h4⟩
        · cases h3
        · cases h3
          rcases h4 with ⟨e2, h4, e1⟩ | ⟨k3, c4, h4, e1⟩
          · cases e1
            exact wq_mono (ih 8 o j _ h4 d (i + 1) _ _ (by simp only [glv] at hd ⊢; omega) ho b (by omega)) (fun s2 p2 => gP_fr ⟨p2.1, p2.2⟩ (fr_tr (fr_tr f p.2) g))
          · cases e1
      · rcases sq_some h2 with ⟨e2, h3, e1⟩ | ⟨j2, c3, h3, h4⟩
        · cases h3
        · cases h3
          rcases h4 with ⟨e2, h4, e1⟩ | ⟨k3, c4, h4, e1⟩
          · cases e1
          · cases e1
            exact wq_mono (ih 8 o j _ h4 d (i + 1) _ _ (by simp only [glv] at hd ⊢; omega) ho b (by omega)) (fun s2 p2 => gP_fr (gP_out (gP_out p2)) (fr_tr (fr_tr f p.2) g))
  refine wq_step ?_
  dsimp only
  unfold f_X5_sum_6 f_X5_sum_37
  rcases gif_some hr with ⟨q1, hr⟩ | ⟨q1, hr⟩
  · have hkm := c_kd hm (isg_k q1)
    rw [if_neg (show ¬ (1600 : Int32) ≤ nI i from nI_ge (b := 1600) (by omega) (by decide)), if_pos (s1 q1), if_pos (s1 q1)]
    exact go 4 (by decide) (isg_k q1) hr
  rcases gif_some hr with ⟨q2, hr⟩ | ⟨q2, hr⟩
  · have hkm := c_kd hm (isg_k q2)
    rw [if_neg (show ¬ (1600 : Int32) ≤ nI i from nI_ge (b := 1600) (by omega) (by decide)), if_neg (s1n q1), if_pos (s2 q2), if_neg (s1n q1)]
    exact go 5 (by decide) (isg_k q2) hr
  · rw [gok_some hr]
    have e : gP T m K P q nl o out (.inr (k, [])) σ σ := ⟨by show cG T m K P q nl o k (out ++ []) σ; rw [List.append_nil]; exact h, fr_rf⟩
    split
    · rw [wq_some, fhK_r]; exact e
    · rw [if_neg (s1n q1), if_neg (s2n q2), wq_some, fhK_r]; exact e
theorem gA_productR (hT : tOK T) (hm : tend T m) {o k : Nat} (ih : ∀ w o k, gA T m K P q nl n w o k) : gA T m K P q nl (n + 1) 9 o k := by
  intro r hr d i σ out hd ho h hi
  show wq (fhlp (fun x => f_X5_product_6 (fgR d) x.1 x.2) (nI i, σ)) _
  have hr : gif (isg T k 42) _ _ = some r := hr
  have hT2 := hT.1
  have hm1 := hm.1
  have hk := h.2.1
  have s1 : ∀ (z : isg T k 42), f_X8_isSign 42 σ = true := fun z => by rw [show (42 : Int32) = nI 42 from rfl, c_isSign hT hm h.1 (by decide)]; exact z
  have s1n : ∀ (z : ¬ isg T k 42), ¬ f_X8_isSign 42 σ = true := fun z => by rw [show (42 : Int32) = nI 42 from rfl, c_isSign hT hm h.1 (by decide)]; exact z
  have s2 : ∀ (z : isg T k 47), f_X8_isSign 47 σ = true := fun z => by rw [show (47 : Int32) = nI 47 from rfl, c_isSign hT hm h.1 (by decide)]; exact z
  have s2n : ∀ (z : ¬ isg T k 47), ¬ f_X8_isSign 47 σ = true := fun z => by rw [show (47 : Int32) = nI 47 from rfl, c_isSign hT hm h.1 (by decide)]; exact z
  have go : ∀ op : Nat, op ≤ 14 → kd T k ≠ 0 → sq (rd T q nl n 5 o (k + 1)) (fun k => sq (gok k [(op, 0)]) (fun k => rd T q nl n 9 o k)) = some r → wq (f_X5_product_56 (fgR d) (nI i) (nI op) σ) (fhK (fun y => wq (fhlp (fun x => f_X5_product_6 (fgR d) x.1 x.2) y) (gP T m K P q nl o out r σ)) (gP T m K P q nl o out r σ)) := by
    intro op hop hk0 hr
    have hkm := c_kd hm hk0
    unfold f_X5_product_56
    rw [wq_let, wq_bind]
    obtain ⟨a, f⟩ := cG_adv hT hm h hk0
    rcases sq_some hr with ⟨e, h1, rfl⟩ | ⟨j, c, h1, h2⟩
    · refine wq_mono (ih 5 o (k + 1) _ h1 d 0 _ out (by simp only [glv] at hd ⊢; omega) ho a (Nat.zero_le _)) (fun s p => ?_)
      have p1 : cZ K P q e s := p.1
      obtain ⟨b, g⟩ := cZ_add p1 (nI op) 0
      rw [if_pos (cH_K p1.2), wq_let, wq_some, fhK_l, p1.2.1]
      refine wq_step ?_
      dsimp only
      unfold f_X5_product_6
      rw [c_isSignN b.1, c_isSignN b.1, nI_1]
      split
      · rw [wq_some, fhK_r]; exact ⟨b, fr_tr (fr_tr f p.2) g⟩
      · rw [if_neg (by decide), if_neg (by decide), wq_some, fhK_r]; exact ⟨b, fr_tr (fr_tr f p.2) g⟩
    · have hfit := rd_fit T q nl n 5 o (k + 1) _ h1
      have hfit : k + 1 + 1 ≤ j ∧ k + 1 + c.length ≤ j := hfit
      have hl := h.2.2.2.1
      refine wq_mono (ih 5 o (k + 1) _ h1 d 0 _ out (by simp only [glv] at hd ⊢; omega) ho a (Nat.zero_le _)) (fun s p => ?_)
      have p1 : cG T m K P q nl o j (out ++ c) s := p.1
      obtain ⟨b, g⟩ := cG_add hT hm p1 (by rw [List.length_append]; omega) (op, 0) (by omega) (Nat.le_of_ble_eq_true rfl)
      have e15 : (if (op, 0).1 = 15 then 0 else (op, 0).1) = op := if_neg (by show ¬ op = 15; omega)
      rw [e15] at b g
      have b : cG T m K P q nl o j (out ++ c ++ [(op, 0)]) (f_X3_add K (nI op) 0 s) := b
      have g : fr (gD K) s (f_X3_add K (nI op) 0 s) := g
      rw [if_pos (cG_K p1).1, wq_let, wq_some, fhK_l, (cG_K p1).2, nI_1]
      rcases h2 with ⟨e, h2, rfl⟩ | ⟨k2, c2, h2, rfl⟩
      · rcases sq_some h2 with ⟨e2, h3, e1⟩ | ⟨j2, c3, h3, h4⟩
        · cases h3
        · cases h3
          rcases h4 with ⟨e2, h4, e1⟩ | ⟨k3, c4, h4, e1⟩
          · cases e1
            exact wq_mono (ih 9 o j _ h4 d (i + 1) _ _ (by simp only [glv] at hd ⊢; omega) ho b (by omega)) (fun s2 p2 => gP_fr ⟨p2.1, p2.2⟩ (fr_tr (fr_tr f p.2) g))
          · cases e1
      · rcases sq_some h2 with ⟨e2, h3, e1⟩ | ⟨j2, c3, h3, h4⟩
        · cases h3
        · cases h3
          rcases h4 with ⟨e2, h4, e1⟩ | ⟨k3, c4, h4, e1⟩
          · cases e1
          · cases e1
            exact wq_mono (ih 9 o j _ h4 d (i + 1) _ _ (by simp only [glv] at hd ⊢; omega) ho b (by omega)) (fun s2 p2 => gP_fr (gP_out (gP_out p2)) (fr_tr (fr_tr f p.2) g))
  refine wq_step ?_
  dsimp only
  unfold f_X5_product_6 f_X5_product_37
  rcases gif_some hr with ⟨q1, hr⟩ | ⟨q1, hr⟩
  · have hkm := c_kd hm (isg_k q1)
    rw [if_neg (show ¬ (1600 : Int32) ≤ nI i from nI_ge (b := 1600) (by omega) (by decide)), if_pos (s1 q1), if_pos (s1 q1)]
    exact go 6 (by decide) (isg_k q1) hr
  rcases gif_some hr with ⟨q2, hr⟩ | ⟨q2, hr⟩
  · have hkm := c_kd hm (isg_k q2)
    rw [if_neg (show ¬ (1600 : Int32) ≤ nI i from nI_ge (b := 1600) (by omega) (by decide)), if_neg (s1n q1), if_pos (s2 q2), if_neg (s1n q1)]
    exact go 7 (by decide) (isg_k q2) hr
  · rw [gok_some hr]
    have e : gP T m K P q nl o out (.inr (k, [])) σ σ := ⟨by show cG T m K P q nl o k (out ++ []) σ; rw [List.append_nil]; exact h, fr_rf⟩
    split
    · rw [wq_some, fhK_r]; exact e
    · rw [if_neg (s1n q1), if_neg (s2n q2), wq_some, fhK_r]; exact e
end
