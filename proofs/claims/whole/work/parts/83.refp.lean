/-! THE REFERENCE'S PARTS: its loop seen from within -/
theorem r_wordOf {T : tT} (hT : tOK T) {q : Bool} {k lo hi : Nat} {σ : fhM} (h : mP T k σ) (hw : mW σ) (ht : σ.1 0 48 = (if q = true then 1 else 0)) (hlo : lo ≤ 12) (hhi : hi ≤ 12) :
    wq (f_X12_qWordOf (nI lo) (nI hi) σ) (fun r => r.1 = nixI ((wxi T k).filter (fun i => decide (lo ≤ i ∧ i < hi) && (bif q then decide ((4 ≤ i ∧ i ≤ 8) ∨ 9 < i) else decide (i < 4 ∨ i = 9)))) ∧ mA T k r.2 ∧ fr mD σ r.2) := by
  unfold f_X12_qWordOf
  rw [wq_bind]
  refine wq_mono (r_wordHere hT h hw) ?_
  rintro ⟨c, s⟩ ⟨hc, hA, hf⟩
  have hc : c = nixI (wxi T k) := hc
  dsimp only
  rw [hc]
  cases hx : wxi T k with
  | none =>
    rw [show nixI none = (-1 : Int32) from rfl, if_pos (show (-1 : Int32) < nI lo from by rw [Int32.lt_iff_toInt_lt, nI_toInt (by omega)]; show (-1 : Int) < (lo : Int); omega), wq_some]
    exact ⟨rfl, hA, hf⟩
  | some i =>
    obtain ⟨hi12, -⟩ := wxi_some hx
    rw [show nixI (some i) = nI i from rfl]
    by_cases h1 : i < lo
    · rw [if_pos (nI_lt h1 (by omega)), wq_some, Option.filter_some, if_neg (by rw [Bool.and_eq_true, decide_eq_true_iff]; omega)]
      exact ⟨rfl, hA, hf⟩
    rw [if_neg (nI_nlt (by omega) (by omega))]
    by_cases h2 : hi ≤ i
    · rw [if_pos (nI_le h2 (by omega)), wq_some, Option.filter_some, if_neg (by rw [Bool.and_eq_true, decide_eq_true_iff]; omega)]
      exact ⟨rfl, hA, hf⟩
    rw [if_neg (nI_ge (by omega) (by omega))]
    have hts : s.1 0 48 = (if q = true then 1 else 0) := by rw [hf.2 0 48 (by unfold mD; omega)]; exact ht
    have hal : (f_X12_isAllowed (nI i) s = true) = ((bif q then decide ((4 ≤ i ∧ i ≤ 8) ∨ 9 < i) else decide (i < 4 ∨ i = 9)) = true) := by
      unfold f_X12_isAllowed f_X12_isAllowed_18 f_X12_isAllowed_46
      rw [hts]
      cases q with
      | true =>
        rw [if_neg (show ¬ ((if true = true then (1 : Int32) else 0) = 0) by decide), nI_l (by omega), show (4 : Int64) = lN 4 from rfl, show (8 : Int64) = lN 8 from rfl, m_isIn (by omega) (by decide) (by decide)]
        show _ = (decide ((4 ≤ i ∧ i ≤ 8) ∨ 9 < i) = true)
        by_cases z : 4 ≤ i ∧ i ≤ 8
        · rw [decide_eq_true z, if_pos rfl, decide_eq_true (Or.inl z)]
        · rw [decide_eq_false z, if_neg (by decide)]
          by_cases y : i ≤ 9
          · rw [if_pos (show nI i ≤ (9 : Int32) from nI_le (b := 9) y (by decide)), decide_eq_false (by omega)]
          · rw [if_neg (show ¬ nI i ≤ (9 : Int32) from nI_ge (a := 9) (by omega) (by omega)), decide_eq_true (by omega)]
      | false =>
        rw [if_pos (show ((if false = true then (1 : Int32) else 0) = 0) by decide)]
        show _ = (decide (i < 4 ∨ i = 9) = true)
        by_cases z : i < 4
        · rw [if_pos (show nI i < (4 : Int32) from nI_lt (b := 4) z (by decide)), decide_eq_true (Or.inl z)]
        · rw [if_neg (show ¬ nI i < (4 : Int32) from nI_nlt (b := 4) (by omega) (by omega))]
          by_cases y : i = 9
          · rw [if_pos (show nI i = (9 : Int32) by rw [y]; rfl), decide_eq_true (by omega)]
          · rw [if_neg (show ¬ nI i = (9 : Int32) from fun x => y ((nI_eq (b := 9) (by omega) (by decide)).mp x)), decide_eq_false (by omega)]
    rw [Option.filter_some, decide_eq_true (show lo ≤ i ∧ i < hi by omega), Bool.true_and]
    by_cases z : f_X12_isAllowed (nI i) s = true
    · rw [if_pos z, wq_some]
      rw [hal] at z
      rw [if_pos z]
      exact ⟨rfl, hA, hf⟩
    · rw [if_neg z, wq_some]
      rw [hal] at z
      rw [if_neg z]
      exact ⟨rfl, hA, hf⟩
/-- the look word's number -/
def lki (q : Bool) (T : tT) (k : Nat) : Option Nat := match lkx q T k with
  | some 15 => some 9
  | some 20 => some 10
  | some _ => some 11
  | none => none
theorem wxi_isw {T : tT} {k i j : Nat} (h : wxi T k = some i) (hj : wx[i]? = some j) : isw T k j := by
  obtain ⟨a, j2, b, c⟩ := wxi_some h
  rw [hj] at b
  cases b
  exact c
theorem wxi_kd {T : tT} {k i : Nat} (h : wxi T k = some i) : kd T k = 1 := by
  obtain ⟨a, j2, b, c⟩ := wxi_some h
  exact c.1
theorem lki_eq {q : Bool} {T : tT} {k : Nat} : (wxi T k).filter (fun i => decide (9 ≤ i ∧ i < 12) && (bif q then decide ((4 ≤ i ∧ i ≤ 8) ∨ 9 < i) else decide (i < 4 ∨ i = 9))) = lki q T k := by
  unfold lki lkx
  by_cases hk : kd T k = 1
  · rw [if_pos hk]
    cases q with
    | true =>
      simp only [cond_true]
      by_cases a : ow (lt T k) = 18
      · rw [if_pos a, wxi_of (i := 10) rfl ⟨hk, a⟩]; rfl
      · rw [if_neg a]
        by_cases b : ow (lt T k) = 19
        · rw [if_pos b, wxi_of (i := 11) rfl ⟨hk, b⟩]; rfl
        · rw [if_neg b]
          cases hx : wxi T k with
          | none => rfl
          | some i =>
            rw [Option.filter_some]
            split
            · rename_i z
              exfalso
              rw [Bool.and_eq_true, decide_eq_true_iff, decide_eq_true_iff] at z
              have : i = 10 ∨ i = 11 := by omega
              rcases this with rfl | rfl
              · exact a (wxi_isw hx rfl).2
              · exact b (wxi_isw hx rfl).2
            · rfl
    | false =>
      simp only [cond_false]
      by_cases a : ow (lt T k) = 12
      · rw [if_pos a, wxi_of (i := 9) rfl ⟨hk, a⟩]; rfl
      · rw [if_neg a]
        cases hx : wxi T k with
        | none => rfl
        | some i =>
          rw [Option.filter_some]
          split
          · rename_i z
            exfalso
            rw [Bool.and_eq_true, decide_eq_true_iff, decide_eq_true_iff] at z
            have : i = 9 := by omega
            subst this
            exact a (wxi_isw hx rfl).2
          · rfl
  · rw [if_neg hk]
    cases hx : wxi T k with
    | none => rfl
    | some i => exact absurd (wxi_kd hx) hk
/-- the part's number -/
def pti (q : Bool) (T : tT) (k : Nat) : Option Nat :=
  if kd T k = 1 then (bif q then (if 13 ≤ ow (lt T k) ∧ ow (lt T k) ≤ 17 then some (ow (lt T k) - 9) else none) else (if 8 ≤ ow (lt T k) ∧ ow (lt T k) ≤ 11 then some (ow (lt T k) - 8) else none)) else none
theorem pti_eq {q : Bool} {T : tT} {k : Nat} : (wxi T k).filter (fun i => decide (0 ≤ i ∧ i < 9) && (bif q then decide ((4 ≤ i ∧ i ≤ 8) ∨ 9 < i) else decide (i < 4 ∨ i = 9))) = pti q T k := by
  unfold pti
  by_cases hk : kd T k = 1
  · rw [if_pos hk]
    cases q with
    | true =>
      simp only [cond_true]
      by_cases a : 13 ≤ ow (lt T k) ∧ ow (lt T k) ≤ 17
      · rw [if_pos a]
        have : ow (lt T k) = 13 ∨ ow (lt T k) = 14 ∨ ow (lt T k) = 15 ∨ ow (lt T k) = 16 ∨ ow (lt T k) = 17 := by omega
        rcases this with e | e | e | e | e
        · rw [wxi_of (i := 4) rfl ⟨hk, e⟩, e]; rfl
        · rw [wxi_of (i := 5) rfl ⟨hk, e⟩, e]; rfl
        · rw [wxi_of (i := 6) rfl ⟨hk, e⟩, e]; rfl
        · rw [wxi_of (i := 7) rfl ⟨hk, e⟩, e]; rfl
        · rw [wxi_of (i := 8) rfl ⟨hk, e⟩, e]; rfl
      · rw [if_neg a]
        cases hx : wxi T k with
        | none => rfl
        | some i =>
          rw [Option.filter_some]
          split
          · rename_i z
            exfalso
            rw [Bool.and_eq_true, decide_eq_true_iff, decide_eq_true_iff] at z
            have : i = 4 ∨ i = 5 ∨ i = 6 ∨ i = 7 ∨ i = 8 := by omega
            rcases this with rfl | rfl | rfl | rfl | rfl
            · have := (wxi_isw (j := 13) hx rfl).2; omega
            · have := (wxi_isw (j := 14) hx rfl).2; omega
            · have := (wxi_isw (j := 15) hx rfl).2; omega
            · have := (wxi_isw (j := 16) hx rfl).2; omega
            · have := (wxi_isw (j := 17) hx rfl).2; omega
          · rfl
    | false =>
      simp only [cond_false]
      by_cases a : 8 ≤ ow (lt T k) ∧ ow (lt T k) ≤ 11
      · rw [if_pos a]
        have : ow (lt T k) = 8 ∨ ow (lt T k) = 9 ∨ ow (lt T k) = 10 ∨ ow (lt T k) = 11 := by omega
        rcases this with e | e | e | e
        · rw [wxi_of (i := 0) rfl ⟨hk, e⟩, e]; rfl
        · rw [wxi_of (i := 1) rfl ⟨hk, e⟩, e]; rfl
        · rw [wxi_of (i := 2) rfl ⟨hk, e⟩, e]; rfl
        · rw [wxi_of (i := 3) rfl ⟨hk, e⟩, e]; rfl
      · rw [if_neg a]
        cases hx : wxi T k with
        | none => rfl
        | some i =>
          rw [Option.filter_some]
          split
          · rename_i z
            exfalso
            rw [Bool.and_eq_true, decide_eq_true_iff, decide_eq_true_iff] at z
            have : i = 0 ∨ i = 1 ∨ i = 2 ∨ i = 3 := by omega
            rcases this with rfl | rfl | rfl | rfl
            · have := (wxi_isw (j := 8) hx rfl).2; omega
            · have := (wxi_isw (j := 9) hx rfl).2; omega
            · have := (wxi_isw (j := 10) hx rfl).2; omega
            · have := (wxi_isw (j := 11) hx rfl).2; omega
          · rfl
  · rw [if_neg hk]
    cases hx : wxi T k with
    | none => rfl
    | some i => exact absurd (wxi_kd hx) hk
/-- a word is asked for that is there -/
theorem r_asksWord {T : tT} (hT : tOK T) {k i : Nat} {σ : fhM} (h : mP T k σ) (hw : mW σ) (hi : wxi T k = some i) : wq (f_X12_qAsksWord (nI i) σ) (fun s => mP T (k + 1) s ∧ fr mD σ s) := by
  obtain ⟨h12, j, hj, hs⟩ := wxi_some hi
  have hcs : i = 0 ∨ i = 1 ∨ i = 2 ∨ i = 3 ∨ i = 4 ∨ i = 5 ∨ i = 6 ∨ i = 7 ∨ i = 8 ∨ i = 9 ∨ i = 10 ∨ i = 11 := by omega
  unfold f_X12_qAsksWord
  rcases hcs with rfl | rfl | rfl | rfl | rfl | rfl | rfl | rfl | rfl | rfl | rfl | rfl
  · rw [if_pos (show nI 0 = (0 : Int32) from rfl), wq_bind]
    refine wq_mono (r_as64 hT h hw) (fun s p => ?_)
    rw [wq_some]
    exact ⟨p.1 (wxi_isw hi rfl), p.2.2⟩
  · rw [if_neg (by decide)]
    rw [if_pos (show nI 1 = (1 : Int32) from rfl), wq_bind]
    refine wq_mono (r_as65 hT h hw) (fun s p => ?_)
    rw [wq_some]
    exact ⟨p.1 (wxi_isw hi rfl), p.2.2⟩
  · rw [if_neg (by decide)]
    rw [if_neg (by decide)]
    rw [if_pos (show nI 2 = (2 : Int32) from rfl), wq_bind]
    refine wq_mono (r_as66 hT h hw) (fun s p => ?_)
    rw [wq_some]
    exact ⟨p.1 (wxi_isw hi rfl), p.2.2⟩
  · rw [if_neg (by decide)]
    rw [if_neg (by decide)]
    rw [if_neg (by decide)]
    rw [if_pos (show nI 3 = (3 : Int32) from rfl), wq_bind]
    refine wq_mono (r_as67 hT h hw) (fun s p => ?_)
    rw [wq_some]
    exact ⟨p.1 (wxi_isw hi rfl), p.2.2⟩
  · rw [if_neg (by decide)]
    rw [if_neg (by decide)]
    rw [if_neg (by decide)]
    rw [if_neg (by decide)]
    rw [if_pos (show nI 4 = (4 : Int32) from rfl), wq_bind]
    refine wq_mono (r_as68 hT h hw) (fun s p => ?_)
    rw [wq_some]
    exact ⟨p.1 (wxi_isw hi rfl), p.2.2⟩
  · rw [if_neg (by decide)]
    rw [if_neg (by decide)]
    rw [if_neg (by decide)]
    rw [if_neg (by decide)]
    rw [if_neg (by decide)]
    rw [if_pos (show nI 5 = (5 : Int32) from rfl), wq_bind]
    refine wq_mono (r_as69 hT h hw) (fun s p => ?_)
    rw [wq_some]
    exact ⟨p.1 (wxi_isw hi rfl), p.2.2⟩
  · rw [if_neg (by decide)]
    rw [if_neg (by decide)]
    rw [if_neg (by decide)]
    rw [if_neg (by decide)]
    rw [if_neg (by decide)]
    rw [if_neg (by decide)]
    rw [if_pos (show nI 6 = (6 : Int32) from rfl), wq_bind]
    refine wq_mono (r_as70 hT h hw) (fun s p => ?_)
    rw [wq_some]
    exact ⟨p.1 (wxi_isw hi rfl), p.2.2⟩
  · rw [if_neg (by decide)]
    rw [if_neg (by decide)]
    rw [if_neg (by decide)]
    rw [if_neg (by decide)]
    rw [if_neg (by decide)]
    rw [if_neg (by decide)]
    rw [if_neg (by decide)]
    rw [if_pos (show nI 7 = (7 : Int32) from rfl), wq_bind]
    refine wq_mono (r_as71 hT h hw) (fun s p => ?_)
    rw [wq_some]
    exact ⟨p.1 (wxi_isw hi rfl), p.2.2⟩
  · rw [if_neg (by decide)]
    rw [if_neg (by decide)]
    rw [if_neg (by decide)]
    rw [if_neg (by decide)]
    rw [if_neg (by decide)]
    rw [if_neg (by decide)]
    rw [if_neg (by decide)]
    rw [if_neg (by decide)]
    rw [if_pos (show nI 8 = (8 : Int32) from rfl), wq_bind]
    refine wq_mono (r_as72 hT h hw) (fun s p => ?_)
    rw [wq_some]
    exact ⟨p.1 (wxi_isw hi rfl), p.2.2⟩
  · rw [if_neg (by decide)]
    rw [if_neg (by decide)]
    rw [if_neg (by decide)]
    rw [if_neg (by decide)]
    rw [if_neg (by decide)]
    rw [if_neg (by decide)]
    rw [if_neg (by decide)]
    rw [if_neg (by decide)]
    rw [if_neg (by decide)]
    rw [if_pos (show nI 9 = (9 : Int32) from rfl), wq_bind]
    refine wq_mono (r_as73 hT h hw) (fun s p => ?_)
    rw [wq_some]
    exact ⟨p.1 (wxi_isw hi rfl), p.2.2⟩
  · rw [if_neg (by decide)]
    rw [if_neg (by decide)]
    rw [if_neg (by decide)]
    rw [if_neg (by decide)]
    rw [if_neg (by decide)]
    rw [if_neg (by decide)]
    rw [if_neg (by decide)]
    rw [if_neg (by decide)]
    rw [if_neg (by decide)]
    rw [if_neg (by decide)]
    rw [if_pos (show nI 10 = (10 : Int32) from rfl), wq_bind]
    refine wq_mono (r_as74 hT h hw) (fun s p => ?_)
    rw [wq_some]
    exact ⟨p.1 (wxi_isw hi rfl), p.2.2⟩
  · rw [if_neg (by decide)]
    rw [if_neg (by decide)]
    rw [if_neg (by decide)]
    rw [if_neg (by decide)]
    rw [if_neg (by decide)]
    rw [if_neg (by decide)]
    rw [if_neg (by decide)]
    rw [if_neg (by decide)]
    rw [if_neg (by decide)]
    rw [if_neg (by decide)]
    rw [if_neg (by decide)]
    rw [wq_bind]
    refine wq_mono (r_as75 hT h hw) (fun s p => ?_)
    rw [wq_some]
    exact ⟨p.1 (wxi_isw hi rfl), p.2.2⟩
/-- none of the words of PARTS -/
def rF (e : Nat × Nat) (σ : fhM) : Prop := mF e σ ∧ 1 ≤ e.1 ∧ e.1 ≤ 6 ∧ ∃ L, σ.1 0 99 = nI L ∧ L ≤ 1690
theorem rF_n {e : Nat × Nat} {σ : fhM} (h : rF e σ) : ¬ σ.1 0 5 = 0 := by
  rw [h.1.1]
  exact nI_ne0 (by have := h.2.1; omega) (by have := h.2.2.1; omega)
theorem rF_of {T : tT} {q : Bool} {nl : List (List Nat)} {o k : Nat} {out : gC} {wt : List Nat} {b : Nat} {σ s : fhM} {e : Nat × Nat} (hT : tOK T) (h : rG T q nl o k out wt b σ) (hf : mF e s) (h1 : 1 ≤ e.1) (h6 : e.1 ≤ 6) (hr : s.1 0 99 = σ.1 0 99) : rF e s := by
  have hT2 := hT.1
  have hk := h.2.1
  have hl := h.2.2.2.2.2.1
  exact ⟨hf, h1, h6, out.length, by rw [hr]; exact h.2.2.2.1.1, by omega⟩
/-- a code more behind a fault -/
theorem rF_code {e : Nat × Nat} {σ : fhM} {L : Nat} (h : rF e σ) (h4 : σ.1 0 99 = nI L) (h5 : L ≤ 1690) (v : Int32) : wq (f_X12_qCode v σ) (fun s => mF e s ∧ fr rD σ s ∧ (s.1 0 5 = σ.1 0 5) ∧ s.1 0 99 = nI (L + 1)) := by
  obtain ⟨h1, h2, h3, -⟩ := h
  unfold f_X12_qCode
  rw [h4, if_pos (ph_in1 (by omega) (by omega)), ph_ix (by omega), wq_some]
  refine ⟨⟨?_, ?_⟩, fr_I (fr_I fr_rf (Or.inr (Or.inl rfl))) (Or.inr (Or.inr (Or.inr ⟨rfl, by omega, by omega⟩))), ?_, ?_⟩
  · simp (disch := omega) only [fhI_e, fhI_o, fhI_s]; exact h1.1
  · simp (disch := omega) only [fhI_e, fhI_o, fhI_s]; exact h1.2
  · simp (disch := omega) only [fhI_e, fhI_o, fhI_s]
  · simp (disch := omega) only [fhI_e, fhI_o, fhI_s]; rw [nI_1]
noncomputable def kLS (v : Int32) (x : Int32 × fhM) : Option fhM := fhlp (fun x => f_X12_qSums_15 v x.1 x.2) x
noncomputable def kG (v : Int32) (σ : fhM) : Option fhM := Option.bind (fhlp (fun x => f_X12_qGoesOn_0 x) σ) (fun q2 => if q2.1 = true then kLS v (1, q2.2) else kLS v (0, q2.2))
noncomputable def kB (v : Int32) (σ : fhM) : Option fhM := if σ.1 0 5 = 0 then kG v σ else kLS v (0, σ)
noncomputable def kA (v : Int32) (σ : fhM) : Option fhM := Option.bind (f_X12_qEndsPart σ) (kB v)
noncomputable def k0 (v : Int32) (σ : fhM) : Option fhM := Option.bind (fhlp (fun x => f_X12_qPartTold_2 x.1 x.2) ((1 : Int32), σ)) (kB v)
theorem k0_step {v : Int32} {σ : fhM} {Q : fhM → Prop} (h : wq (f_X12_qPartTold_2 1 σ) (fhK (fun y => wq (fhlp (fun x => f_X12_qPartTold_2 x.1 x.2) y) (fun q1 => wq (kB v q1) Q)) (fun q1 => wq (kB v q1) Q))) : wq (k0 v σ) Q := by
  unfold k0
  rw [wq_bind]
  exact wq_step h
theorem k0_of {v : Int32} {σ : fhM} {Q : fhM → Prop} (h : wq (k0 v σ) Q) : wq (fhlp (fun x => f_X12_qPartTold_2 x.1 x.2) ((1 : Int32), σ)) (fun q1 => wq (kB v q1) Q) := by
  unfold k0 at h
  rwa [wq_bind] at h
theorem kLS_1 {v : Int32} {σ : fhM} {Q : fhM → Prop} (hb : σ.1 0 5 = 0) (h : wq (k0 v σ) Q) : wq (kLS v (1, σ)) Q := by
  unfold kLS
  refine wq_step ?_
  dsimp only
  unfold f_X12_qSums_15
  rw [if_neg (by decide), if_pos hb, wq_bind]
  have h2 := k0_of h
  unfold f_X12_qPartTold
  refine wq_mono h2 (fun q1 p => ?_)
  unfold kB at p
  by_cases z : q1.1 0 5 = 0
  · rw [if_pos z] at p
    rw [if_pos z]
    unfold kG at p
    rw [wq_bind] at p
    rw [wq_bind]
    unfold f_X12_qGoesOn
    refine wq_mono p (fun q2 p2 => ?_)
    unfold f_X12_qSums_48 f_X12_qSums_49
    by_cases y : q2.1 = true
    · rw [if_pos y] at p2
      rw [if_pos y, wq_some, fhK_l]
      exact p2
    · rw [if_neg y] at p2
      rw [if_neg y, wq_some, fhK_l]
      exact p2
  · rw [if_neg z] at p
    rw [if_neg z]
    unfold f_X12_qSums_48 f_X12_qSums_49
    rw [wq_some, fhK_l]
    exact p
theorem kLS_bad {v : Int32} {e : Nat × Nat} {s : fhM} {Q : fhM → Prop} (hs : rF e s) (h : Q (fhI s 0 103 v)) : wq (kLS v (0, s)) Q := by
  unfold kLS
  refine wq_step ?_
  dsimp only
  unfold f_X12_qSums_15
  rw [if_pos rfl, wq_map]
  simp only [fhK_r]
  refine wq_step ?_
  unfold f_X12_qSums_53 f_X12_qSums_78
  rw [if_neg (rF_n hs), wq_map, wq_some, fhK_r]
  exact h
/-- Q for a fault: whatever the base -/
def rQ (σ : fhM) (Q : fhM → Prop) (e : Nat × Nat) : Prop := ∀ s, rF e s → fr rD σ s → Q s
theorem rF_base {e : Nat × Nat} {σ s : fhM} {v : Int32} (h : rF e s) (hf : fr rD σ s) : rF e (fhI s 0 103 v) ∧ fr rD σ (fhI s 0 103 v) := by
  obtain ⟨⟨h1, h1b⟩, h2, h3, L, h4, h5⟩ := h
  refine ⟨⟨⟨?_, ?_⟩, h2, h3, L, ?_, h5⟩, fr_I hf (Or.inr (Or.inr (Or.inr ⟨rfl, by omega, by omega⟩)))⟩
  · simp (disch := omega) only [fhI_e, fhI_o, fhI_s]; exact h1
  · simp (disch := omega) only [fhI_e, fhI_o, fhI_s]; exact h1b
  · simp (disch := omega) only [fhI_e, fhI_o, fhI_s]; exact h4
theorem kLS_q {v : Int32} {e : Nat × Nat} {σ s : fhM} {Q : fhM → Prop} (hQ : rQ σ Q e) (hs : rF e s) (hf : fr rD σ s) : wq (kLS v (0, s)) Q := by
  obtain ⟨a, b⟩ := rF_base (v := v) hs hf
  exact kLS_bad hs (hQ _ a b)
theorem kB_q {v : Int32} {e : Nat × Nat} {σ s : fhM} {Q : fhM → Prop} (hQ : rQ σ Q e) (hs : rF e s) (hf : fr rD σ s) : wq (kB v s) Q := by
  unfold kB
  rw [if_neg (rF_n hs)]
  exact kLS_q hQ hs hf
theorem kA_q {v : Int32} {e : Nat × Nat} {σ s : fhM} {Q : fhM → Prop} (hQ : rQ σ Q e) (hs : rF e s) (hf : fr rD σ s) : wq (kA v s) Q := by
  unfold kA f_X12_qEndsPart
  rw [wq_bind]
  refine wq_step ?_
  unfold f_X12_qEndsPart_0
  rw [if_neg (rF_n hs), wq_some, fhK_r]
  exact kB_q hQ hs hf
/-- a fault within the loop of openings -/
theorem k0_q {v : Int32} {e : Nat × Nat} {σ s : fhM} {x : Int32} {Q : fhM → Prop} (hQ : rQ σ Q e) (hs : rF e s) (hf : fr rD σ s) : wq (fhlp (fun x => f_X12_qPartTold_2 x.1 x.2) (x, s)) (fun q1 => wq (kB v q1) Q) := by
  refine wq_step ?_
  dsimp only
  unfold f_X12_qPartTold_2 f_X12_qPartTold_186
  rw [if_neg (rF_n hs), if_neg (rF_n hs)]
  split
  · rw [wq_map, wq_some, fhK_r]; exact kB_q hQ hs hf
  · rw [wq_map, wq_some, fhK_r]; exact kB_q hQ hs hf
