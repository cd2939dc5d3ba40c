/-! THE REFERENCE'S READING, token by token -/
def tOK (T : tT) : Prop := T.2 ≤ 1600 ∧ ∀ i, T.1 i < 256
def mD (t j : Nat) : Prop := t = 0 ∧ (j = 2 ∨ j = 4 ∨ j = 5 ∨ j = 6 ∨ j = 10 ∨ j = 37)
/-- the reference stands ahead of token k, without a fault -/
def mP (T : tT) (k : Nat) (σ : fhM) : Prop :=
  (∀ i, i < T.2 → σ.1 1 i = nI (T.1 i)) ∧ σ.1 0 3 = nI T.2 ∧ σ.1 0 5 = 0 ∧ (∃ a, σ.1 0 2 = nI a ∧ (ts T k).1 ≤ a ∧ a ≤ fm T k) ∧
  ((ts T k).2 = true → σ.1 0 4 = nI (ts T k).1) ∧ ((ts T k).2 = false → ∀ j, (ts T k).1 ≤ j → j < 2 ^ 31 → σ.1 0 4 ≠ nI j) ∧ σ.1 0 6 = -1
/-- and just at it -/
def mA (T : tT) (k : Nat) (σ : fhM) : Prop := mP T k σ ∧ σ.1 0 2 = nI (fm T k)
def mF (q : Nat × Nat) (σ : fhM) : Prop := σ.1 0 5 = nI q.1 ∧ σ.1 0 6 = nI q.2
theorem m_isLetter {c : Nat} (hc : c < 256) (σ : fhM) : f_X12_isLetter (nI c) σ = decide (tS c = 1) := by
  unfold f_X12_isLetter tS
  rw [show (97 : Int32) = nI 97 from rfl, show (122 : Int32) = nI 122 from rfl]
  by_cases h1 : c < 97
  · rw [if_pos (nI_lt h1 (by decide)), if_neg (show ¬ (97 ≤ c ∧ c ≤ 122) by omega)]
    split <;> rfl
  · rw [if_neg (nI_nlt (by omega) (by omega))]
    by_cases h2 : 122 < c
    · rw [if_pos (nI_lt h2 (by omega)), if_neg (show ¬ (97 ≤ c ∧ c ≤ 122) by omega)]
      split <;> rfl
    · rw [if_neg (nI_nlt (by omega) (by decide)), if_pos (show 97 ≤ c ∧ c ≤ 122 by omega)]
      rfl
theorem m_isLetterN (σ : fhM) : f_X12_isLetter (-1) σ = false := by
  unfold f_X12_isLetter
  rw [if_pos (by decide)]
theorem m_isDigit {c : Nat} (hc : c < 256) (σ : fhM) : f_X12_isDigit (nI c) σ = decide (tS c = 2) := by
  unfold f_X12_isDigit tS
  rw [show (48 : Int32) = nI 48 from rfl, show (57 : Int32) = nI 57 from rfl]
  by_cases h1 : c < 48
  · rw [if_pos (nI_lt h1 (by decide)), if_neg (show ¬ (97 ≤ c ∧ c ≤ 122) by omega), if_neg (show ¬ (48 ≤ c ∧ c ≤ 57) by omega)]
    rfl
  · rw [if_neg (nI_nlt (by omega) (by omega))]
    by_cases h2 : 57 < c
    · rw [if_pos (nI_lt h2 (by omega)), if_neg (show ¬ (48 ≤ c ∧ c ≤ 57) by omega)]
      split <;> rfl
    · rw [if_neg (nI_nlt (by omega) (by decide)), if_neg (show ¬ (97 ≤ c ∧ c ≤ 122) by omega), if_pos (show 48 ≤ c ∧ c ≤ 57 by omega)]
      rfl
theorem m_isDigitN (σ : fhM) : f_X12_isDigit (-1) σ = false := by
  unfold f_X12_isDigit
  rw [if_pos (by decide)]
theorem m_fail {q : Nat × Nat} {σ : fhM} (h : σ.1 0 5 = 0) : mF q (f_X12_fail (nI q.1) (nI q.2) σ) ∧ fr mD σ (f_X12_fail (nI q.1) (nI q.2) σ) := by
  unfold f_X12_fail
  rw [if_pos h]
  refine ⟨⟨?_, ?_⟩, fr_I (fr_I fr_rf ?_) ?_⟩
  · simp only [fhI_r]; rfl
  · simp only [fhI_r]; rfl
  · exact ⟨rfl, by omega⟩
  · exact ⟨rfl, by omega⟩
theorem m_failN {a b : Int32} {σ : fhM} (h : σ.1 0 5 ≠ 0) : f_X12_fail a b σ = σ := by
  unfold f_X12_fail
  rw [if_neg h]
/-- the bytes and the end stay -/
theorem mP_b {T : tT} {k : Nat} {σ : fhM} (h : mP T k σ) {i : Nat} (hi : i < T.2) : σ.1 1 i = nI (T.1 i) := h.1 i hi
theorem m_blank {c : Nat} (hc : c < 256) : (nI c = (10 : Int32) ∨ nI c = (32 : Int32)) ↔ tB c = true := by
  rw [show (10 : Int32) = nI 10 from rfl, show (32 : Int32) = nI 32 from rfl, nI_eq (by omega) (by decide), nI_eq (by omega) (by decide)]
  unfold tB
  rw [Bool.or_eq_true, beq_iff_eq, beq_iff_eq]
/-- the place is set within the blanks ahead of the token -/
theorem mP_at {T : tT} {k a : Nat} {σ : fhM} (h : mP T k σ) (h1 : (ts T k).1 ≤ a) (h2 : a ≤ fm T k) : mP T k (fhI σ 0 2 (nI a)) := by
  obtain ⟨p1, p2, p3, p4, p5, p6, p7⟩ := h
  refine ⟨fun i hi => ?_, ?_, ?_, ⟨a, ?_, h1, h2⟩, fun e => ?_, fun e j q1 q2 => ?_, ?_⟩
  · rw [fhI_r, if_neg (by omega)]; exact p1 i hi
  · rw [fhI_r, if_neg (by omega)]; exact p2
  · rw [fhI_r, if_neg (by omega)]; exact p3
  · rw [fhI_r, if_pos ⟨rfl, rfl⟩]
  · rw [fhI_r, if_neg (by omega)]; exact p5 e
  · rw [fhI_r, if_neg (by omega)]; exact p6 e j q1 q2
  · rw [fhI_r, if_neg (by omega)]; exact p7
theorem mA_at {T : tT} {k : Nat} {σ : fhM} (h : mP T k σ) : mA T k (fhI σ 0 2 (nI (fm T k))) := ⟨mP_at h (fm_ge T k) (Nat.le_refl _), by rw [fhI_r, if_pos ⟨rfl, rfl⟩]⟩
def mc (T : tT) (k : Nat) : Int32 := if kd T k = 0 then -1 else nI (T.1 (fm T k))
theorem m_look {T : tT} (hT : tOK T) {k : Nat} {σ : fhM} (h : mP T k σ) : wq (f_X12_look σ) (fun r => r.1 = mc T k ∧ mA T k r.2 ∧ fr mD σ r.2) := by
  unfold f_X12_look
  obtain ⟨a, ha, ha1, ha2⟩ := h.2.2.2.1
  have hfl := fm_le T k
  have hT2 := hT.1
  refine wq_for (R := fun i x => mP T k x ∧ x.1 0 2 = nI i ∧ fr mD σ x) a (fm T k) ha2 ?_ ?_ ⟨h, ha, fr_rf⟩
  · rintro i x h1 h2 ⟨hx, hi, hf⟩
    unfold f_X12_look_0
    rw [hx.2.1, hi, if_neg (nI_ge (by omega) (by omega)), if_pos (ph_in1 (by omega) (by omega)), ph_ix (by omega), mP_b hx (by omega)]
    have hb : tB (T.1 i) = true := fw_in (p := fun j => tB (T.1 j)) (ts_le T k) (by omega) h2
    have hb2 := (m_blank (hT.2 i)).mpr hb
    have go : wq (f_X12_look_39 x) (fhK (fun x => mP T k x ∧ x.1 0 2 = nI (i + 1) ∧ fr mD σ x) (fun r => r.1 = mc T k ∧ mA T k r.2 ∧ fr mD σ r.2)) := by
      unfold f_X12_look_39
      rw [wq_some, fhK_l, hi, nI_1]
      exact ⟨mP_at hx (by omega) (by omega), by rw [fhI_r, if_pos ⟨rfl, rfl⟩], fr_I hf ⟨rfl, by omega⟩⟩
    by_cases h10 : nI (T.1 i) = (10 : Int32)
    · rw [if_pos h10]
      exact go
    · have h32 : nI (T.1 i) = (32 : Int32) := by
        rcases hb2 with q | q
        · exact absurd q h10
        · exact q
      rw [if_neg h10, if_pos (ph_in1 (by omega) (by omega)), if_pos h32]
      exact go
  · rintro x ⟨hx, hi, hf⟩
    have fin : wq (Option.map Sum.inr (f_X12_look_52 x)) (fhK (fun _ : fhM => False) (fun r => r.1 = mc T k ∧ mA T k r.2 ∧ fr mD σ r.2)) := by
      rw [wq_map]
      unfold f_X12_look_52
      rw [hx.2.1, hi]
      by_cases he : T.2 ≤ fm T k
      · rw [if_pos (nI_le he (by omega)), wq_some, fhK_r]
        refine ⟨?_, ⟨hx, hi⟩, hf⟩
        unfold mc
        rw [if_pos (kd_0.mpr (by omega))]
      · rw [if_neg (nI_ge (by omega) (by omega)), if_pos (ph_in1 (by omega) (by omega)), ph_ix (by omega), wq_some, fhK_r, mP_b hx (by omega)]
        refine ⟨?_, ⟨hx, hi⟩, hf⟩
        unfold mc
        rw [if_neg (fun q => by have := kd_0.mp q; omega)]
    unfold f_X12_look_0
    rw [hx.2.1, hi]
    by_cases he : T.2 ≤ fm T k
    · rw [if_pos (nI_le he (by omega))]
      exact fin
    · rw [if_neg (nI_ge (by omega) (by omega)), if_pos (ph_in1 (by omega) (by omega)), ph_ix (by omega), mP_b hx (by omega)]
      have hnb : tB (T.1 (fm T k)) = false := fw_at (p := fun j => tB (T.1 j)) (ts_le T k) (show fm T k < T.2 by omega)
      have hnb2 : ¬ (nI (T.1 (fm T k)) = (10 : Int32) ∨ nI (T.1 (fm T k)) = (32 : Int32)) := fun q => by rw [(m_blank (hT.2 _)).mp q] at hnb; cases hnb
      rw [if_neg (fun q => hnb2 (Or.inl q)), if_pos (ph_in1 (by omega) (by omega)), if_neg (fun q => hnb2 (Or.inr q))]
      exact fin
/-- a word as the reference has it at place v -/
def mWd (v : Nat) (w : List Nat) (σ : fhM) : Prop := (fhYM.1 v).2.2 = w.length ∧ (∀ i, i < w.length → ∃ c, w[i]? = some c ∧ c < 256 ∧ tS c = 1 ∧ σ.1 v i = nI c) ∧ 0 < w.length ∧ w.length < 100 ∧ 2 ≤ v
theorem mWd_fr {v : Nat} {w : List Nat} {σ σ' : fhM} (h : mWd v w σ) (hf : fr mD σ σ') : mWd v w σ' := by
  obtain ⟨a, b, c, d, e⟩ := h
  refine ⟨a, fun i hi => ?_, c, d, e⟩
  obtain ⟨x, h1, h2, h3, h4⟩ := b i hi
  refine ⟨x, h1, h2, h3, ?_⟩
  rw [hf.2 v i (fun q => by have := q.1; omega)]
  exact h4
/-- word tokens: all letters, and what follows is none -/
theorem lt_eq {T : tT} {k : Nat} {w : List Nat} : lt T k = w ↔ to T k - fm T k = w.length ∧ ∀ i, i < w.length → w[i]? = some (T.1 (fm T k + i)) := by
  constructor
  · intro h
    subst h
    refine ⟨(lt_len T k).symm, fun i hi => ?_⟩
    exact lt_at (by rw [lt_len] at hi; exact hi)
  · rintro ⟨h1, h2⟩
    apply List.ext_getElem?
    intro i
    by_cases hi : i < w.length
    · rw [h2 i hi, lt_at (by omega)]
    · rw [List.getElem?_eq_none (by rw [lt_len]; omega), List.getElem?_eq_none (by omega)]
theorem m_isHere {T : tT} (hT : tOK T) {k v : Nat} {w : List Nat} {σ : fhM} (h : mP T k σ) (hw : mWd v w σ) : wq (f_X12_isHere v σ) (fun r => r.1 = decide (kd T k = 1 ∧ lt T k = w) ∧ mA T k r.2 ∧ fr mD σ r.2) := by
  unfold f_X12_isHere
  rw [if_pos h.2.2.1, wq_bind]
  refine wq_mono (m_look hT h) ?_
  rintro ⟨c, σ1⟩ ⟨hc, hA, hf⟩
  have hc : c = mc T k := hc
  have hA : mA T k σ1 := hA
  have hf : fr mD σ σ1 := hf
  dsimp only
  have hT2 := hT.1
  have hw1 := mWd_fr hw hf
  rw [hc]
  unfold mc
  have hno : kd T k ≠ 1 → wq (some (false, σ1)) (fun r => r.1 = decide (kd T k = 1 ∧ lt T k = w) ∧ mA T k r.2 ∧ fr mD σ r.2) := by
    intro q
    rw [wq_some]
    exact ⟨(decide_eq_false (fun p => q p.1)).symm, hA, hf⟩
  by_cases h0 : kd T k = 0
  · rw [if_pos h0, m_isLetterN, if_neg (by decide)]
    exact hno (by omega)
  rw [if_neg h0, m_isLetter (hT.2 _)]
  by_cases hs : tS (T.1 (fm T k)) = 1
  · rw [decide_eq_true hs, if_pos rfl, hA.2]
    by_cases hn : nI (fm T k) = σ1.1 0 4
    · rw [if_pos hn]
      refine hno (fun q => ?_)
      have hnr := kd_near (T := T) (k := k) (Or.inl q)
      have hfl := fm_le T k
      have hge := fm_ge T k
      have hle := ts_le T k
      cases he : (ts T k).2 with
      | true =>
        have e1 := hA.1.2.2.2.2.1 he
        rw [e1, nI_eq (by omega) (by omega)] at hn
        exact hnr ⟨he, hn⟩
      | false => exact hA.1.2.2.2.2.2.1 he (fm T k) hge (by omega) hn.symm
    · rw [if_neg hn]
      have hk1 : kd T k = 1 := by
        have e := (kd_is h0).1
        by_cases q : tS (T.1 (fm T k)) ≠ 3 ∧ (ts T k).2 = true ∧ fm T k = (ts T k).1
        · exact absurd (by rw [hA.1.2.2.2.2.1 q.2.1, q.2.2]) hn
        · rw [if_neg q] at e
          omega
      have hfl := kd_pos h0
      have htl := to_le T k
      have hgt := to_gt h0
      refine wq_for (R := fun i x => x = nI i) (fm T k) (to T k) (by omega) ?_ ?_ rfl
      · rintro i x h1 h2 rfl
        unfold f_X12_isHere_35
        have hsi := lt_sort h0 (by omega) h1 h2
        rw [hA.1.2.1, if_neg (nI_ge (by omega) (by omega)), if_pos (ph_in1 (by omega) (by omega)), ph_ix (by omega), mP_b hA.1 (by omega), m_isLetter (hT.2 _), hsi, decide_eq_true hs, if_pos rfl, wq_some, fhK_l, nI_1]
      · rintro x rfl
        have fin : wq (Option.map Sum.inr (f_X12_isHere_61 v (nI (to T k)) σ1)) (fhK (fun _ : Int32 => False) (fun r => r.1 = decide (kd T k = 1 ∧ lt T k = w) ∧ mA T k r.2 ∧ fr mD σ r.2)) := by
          rw [wq_map]
          simp only [fhK_r]
          unfold f_X12_isHere_61
          obtain ⟨w1, w2, w3, w4, w5⟩ := hw1
          rw [hA.2, pk_sub (by omega), w1, show Int32.ofNat w.length = nI w.length from rfl]
          by_cases hl : to T k - fm T k = w.length
          · rw [hl, if_pos rfl]
            refine wq_for (R := fun i x => x = nI i ∧ ∀ j, j < i → w[j]? = some (T.1 (fm T k + j))) 0 w.length (Nat.zero_le _) ?_ ?_ ⟨rfl, fun j hj => by omega⟩
            · rintro i x - h2 ⟨rfl, hj⟩
              unfold f_X12_isHere_76
              obtain ⟨cc, c1, c2, c3, c4⟩ := w2 i h2
              rw [w1, show Int32.ofNat w.length = nI w.length from rfl, if_neg (nI_ge h2 (by omega)), hA.2, nI_add, if_pos (ph_in1 (by omega) (by omega)), if_pos (ph_in1 (by omega) (by omega)), ph_ix (by omega), ph_ix (by omega), mP_b hA.1 (by omega), c4]
              have hb := hT.2 (fm T k + i)
              by_cases he : nI (T.1 (fm T k + i)) = nI cc
              · rw [if_pos he, wq_some, fhK_l, nI_1]
                refine ⟨rfl, fun j hj2 => ?_⟩
                rcases Nat.lt_succ_iff_lt_or_eq.mp hj2 with q | q
                · exact hj j q
                · rw [q, c1, (nI_eq (by omega) (by omega)).mp he]
              · rw [if_neg he, wq_some, fhK_r]
                refine ⟨(decide_eq_false (fun p => ?_)).symm, hA, hf⟩
                have := (lt_eq.mp p.2).2 i h2
                rw [c1] at this
                exact he (by rw [Option.some.inj this])
            · rintro x ⟨rfl, hj⟩
              unfold f_X12_isHere_76
              rw [w1, show Int32.ofNat w.length = nI w.length from rfl, if_pos (Int32.le_refl _), wq_some, fhK_r]
              exact ⟨(decide_eq_true ⟨hk1, lt_eq.mpr ⟨hl, hj⟩⟩).symm, hA, hf⟩
          · rw [if_neg (fun q => hl ((nI_eq (by omega) (by omega)).mp q)), wq_some]
            exact ⟨(decide_eq_false (fun p => hl (lt_eq.mp p.2).1)).symm, hA, hf⟩
        unfold f_X12_isHere_35
        rw [hA.1.2.1]
        by_cases he : T.2 ≤ to T k
        · rw [if_pos (nI_le he (by omega))]
          exact fin
        · have hse := to_sort h0 (by omega) (show to T k < T.2 by omega)
          rw [if_neg (nI_ge (by omega) (by omega)), if_pos (ph_in1 (by omega) (by omega)), ph_ix (by omega), mP_b hA.1 (by omega), m_isLetter (hT.2 _), decide_eq_false (by omega), if_neg (by decide)]
          exact fin
  · rw [decide_eq_false hs, if_neg (by decide)]
    refine hno (fun q => ?_)
    have := kd_13 (T := T) (k := k) (Or.inl q)
    omega
/-- behind the token -/
theorem mP_next {T : tT} (hT : tOK T) {k : Nat} {σ : fhM} (h : mP T k σ) (hk : kd T k = 1 ∨ kd T k = 2) : mP T (k + 1) (fhI (fhI σ 0 2 (nI (to T k))) 0 4 (nI (to T k))) := by
  obtain ⟨p1, p2, p3, p4, p5, p6, p7⟩ := h
  have hT2 := hT.1
  refine ⟨fun i hi => ?_, ?_, ?_, ⟨to T k, ?_, Nat.le_refl _, fm_s T k⟩, fun e => ?_, fun e j q1 q2 => ?_, ?_⟩
  · simp only [fhI_r]; rw [if_neg (by omega), if_neg (by omega)]; exact p1 i hi
  · simp only [fhI_r]; exact p2
  · simp only [fhI_r]; exact p3
  · simp only [fhI_r]; rfl
  · simp only [fhI_r]; rfl
  · rw [ts_s] at e
    simp only [Bool.not_eq_false', beq_iff_eq] at e
    omega
  · rw [fhI_r, if_neg (by omega), fhI_r, if_neg (by omega)]; exact p7
theorem mP_nextS {T : tT} (hT : tOK T) {k : Nat} {σ : fhM} (h : mP T k σ) (hk : kd T k = 3) : mP T (k + 1) (fhI σ 0 2 (nI (to T k))) := by
  obtain ⟨p1, p2, p3, p4, p5, p6, p7⟩ := h
  have hT2 := hT.1
  have hge := fm_ge T k
  have hgt := to_gt (T := T) (k := k) (by omega)
  have htl := to_le T k
  refine ⟨fun i hi => ?_, ?_, ?_, ⟨to T k, ?_, Nat.le_refl _, fm_s T k⟩, fun e => ?_, fun e j q1 q2 => ?_, ?_⟩
  · rw [fhI_r, if_neg (by omega)]; exact p1 i hi
  · rw [fhI_r, if_neg (by omega)]; exact p2
  · rw [fhI_r, if_neg (by omega)]; exact p3
  · rw [fhI_r, if_pos ⟨rfl, rfl⟩]
  · rw [ts_s, hk] at e
    cases e
  · rw [fhI_r, if_neg (by omega)]
    have q1 : to T k ≤ j := q1
    cases he : (ts T k).2 with
    | true =>
      rw [p5 he]
      intro q
      rw [nI_eq (by omega) (by omega)] at q
      omega
    | false => exact p6 he j (by omega) q2
  · rw [fhI_r, if_neg (by omega)]; exact p7
theorem mP_fr {T : tT} {k : Nat} {σ σ' : fhM} (h : mP T k σ) (h1 : ∀ i, i < T.2 → σ'.1 1 i = σ.1 1 i) (h2 : σ'.1 0 2 = σ.1 0 2) (h3 : σ'.1 0 3 = σ.1 0 3) (h4 : σ'.1 0 4 = σ.1 0 4) (h5 : σ'.1 0 5 = σ.1 0 5) (h6 : σ'.1 0 6 = σ.1 0 6) : mP T k σ' := by
  obtain ⟨p1, p2, p3, p4, p5, p6, p7⟩ := h
  refine ⟨fun i hi => ?_, ?_, ?_, ?_, fun e => ?_, fun e j q1 q2 => ?_, ?_⟩
  · rw [h1 i hi]; exact p1 i hi
  · rw [h3]; exact p2
  · rw [h5]; exact p3
  · rw [h2]; exact p4
  · rw [h4]; exact p5 e
  · rw [h4]; exact p6 e j q1 q2
  · rw [h6]; exact p7
theorem m_takes {T : tT} (hT : tOK T) {k v : Nat} {w : List Nat} {σ : fhM} (h : mP T k σ) (hw : mWd v w σ) : wq (f_X12_takes v σ) (fun r => r.1 = decide (kd T k = 1 ∧ lt T k = w) ∧ (if kd T k = 1 ∧ lt T k = w then mP T (k + 1) r.2 else mA T k r.2) ∧ fr mD σ r.2) := by
  unfold f_X12_takes
  rw [wq_bind]
  refine wq_mono (m_isHere hT h hw) ?_
  rintro ⟨c, σ1⟩ ⟨hc, hA, hf⟩
  have hc : c = decide (kd T k = 1 ∧ lt T k = w) := hc
  have hA : mA T k σ1 := hA
  have hf : fr mD σ σ1 := hf
  dsimp only
  rw [hc]
  by_cases hq : kd T k = 1 ∧ lt T k = w
  · rw [decide_eq_true hq, if_pos rfl, wq_some, if_pos hq]
    have hw1 := mWd_fr hw hf
    have e2 := (lt_eq.mp hq.2).1
    have h0 : kd T k ≠ 0 := by omega
    have hgt := to_gt h0
    have e1 : σ1.1 0 2 + Int32.ofNat (fhYM.1 v).2.2 = nI (to T k) := by
      rw [hw1.1, hA.2, show Int32.ofNat w.length = nI w.length from rfl, nI_add, ← e2, show fm T k + (to T k - fm T k) = to T k by omega]
    rw [e1]
    exact ⟨rfl, mP_next hT hA.1 (Or.inl hq.1), fr_I (fr_I hf ⟨rfl, by omega⟩) ⟨rfl, by omega⟩⟩
  · rw [decide_eq_false hq, if_neg (by decide), wq_some, if_neg hq]
    exact ⟨rfl, hA, hf⟩
theorem m_asks {T : tT} (hT : tOK T) {k v : Nat} {w : List Nat} {σ : fhM} (h : mP T k σ) (hw : mWd v w σ) : wq (f_X12_asks v σ) (fun r => (if kd T k = 1 ∧ lt T k = w then mP T (k + 1) r else mF (1, fm T k) r) ∧ fr mD σ r) := by
  unfold f_X12_asks
  rw [if_pos h.2.2.1, wq_bind]
  refine wq_mono (m_takes hT h hw) ?_
  rintro ⟨c, σ1⟩ ⟨hc, hA, hf⟩
  have hc : c = decide (kd T k = 1 ∧ lt T k = w) := hc
  have hf : fr mD σ σ1 := hf
  dsimp only at hA ⊢
  rw [hc]
  by_cases hq : kd T k = 1 ∧ lt T k = w
  · rw [if_pos hq] at hA
    rw [decide_eq_true hq, if_pos rfl, wq_some, if_pos hq]
    exact ⟨hA, hf⟩
  · rw [if_neg hq] at hA
    rw [decide_eq_false hq, if_neg (by decide), wq_let, wq_some, if_neg hq, hA.2]
    have := m_fail (q := (1, fm T k)) hA.1.2.2.1
    exact ⟨this.1, fr_tr hf this.2⟩
theorem m_asksN {v : Nat} {σ : fhM} (h : σ.1 0 5 ≠ 0) : f_X12_asks v σ = some σ := by
  unfold f_X12_asks
  rw [if_neg h]
theorem m_takesN {v : Nat} {σ : fhM} (h : σ.1 0 5 ≠ 0) : f_X12_takes v σ = some (false, σ) := by
  unfold f_X12_takes f_X12_isHere
  rw [if_neg h]
  rfl
/-- the next token is the sign c -/
def isg (T : tT) (k c : Nat) : Prop := kd T k = 3 ∧ T.1 (fm T k) = c
theorem m_sg {T : tT} (hT : tOK T) {k c : Nat} (hc : tS c = 3) (hc2 : c < 256) : mc T k = nI c ↔ isg T k c := by
  unfold mc isg
  constructor
  · intro h
    by_cases h0 : kd T k = 0
    · rw [if_pos h0] at h
      exact absurd h.symm (ph_m1n (by omega))
    · rw [if_neg h0, nI_eq (by have := hT.2 (fm T k); omega) (by omega)] at h
      refine ⟨?_, h⟩
      have e := (kd_is h0).1
      rw [h, hc] at e
      rw [if_neg (fun q => q.1 rfl)] at e
      exact e
  · rintro ⟨h1, h2⟩
    rw [if_neg (by omega), h2]
theorem isg_to {T : tT} {k c : Nat} (h : isg T k c) : to T k = fm T k + 1 := by
  have h0 : kd T k ≠ 0 := by have := h.1; omega
  have h3 := kd_13 (T := T) (k := k) (Or.inr (Or.inr h.1))
  rw [(kd_is h0).2, if_pos (by have := h.1; omega)]
theorem m_takesSign {T : tT} (hT : tOK T) {k c : Nat} (hc : tS c = 3) (hc2 : c < 256) {σ : fhM} (h : mP T k σ) : wq (f_X12_takesSign (nI c) σ) (fun r => (r.1 = true ↔ isg T k c) ∧ (isg T k c → mP T (k + 1) r.2 ∧ r.2.1 0 2 = nI (to T k)) ∧ (¬ isg T k c → mA T k r.2) ∧ fr mD σ r.2) := by
  unfold f_X12_takesSign
  rw [if_pos h.2.2.1, wq_bind]
  refine wq_mono (m_look hT h) ?_
  rintro ⟨d, σ1⟩ ⟨hd, hA, hf⟩
  have hd : d = mc T k := hd
  have hA : mA T k σ1 := hA
  have hf : fr mD σ σ1 := hf
  dsimp only
  rw [hd]
  by_cases hq : isg T k c
  · have e : σ1.1 0 2 + 1 = nI (to T k) := by rw [hA.2, nI_1, isg_to hq]
    rw [if_pos ((m_sg hT hc hc2).mpr hq), wq_some, e]
    exact ⟨⟨fun _ => hq, fun _ => rfl⟩, fun _ => ⟨mP_nextS hT hA.1 hq.1, by rw [fhI_r, if_pos ⟨rfl, rfl⟩]⟩, fun q => absurd hq q, fr_I hf ⟨rfl, by omega⟩⟩
  · rw [if_neg (fun q => hq ((m_sg hT hc hc2).mp q)), wq_some]
    exact ⟨⟨fun q => (by cases q), fun q => absurd q hq⟩, fun q => absurd q hq, fun _ => hA, hf⟩
theorem m_takesSignN {c : Int32} {σ : fhM} (h : σ.1 0 5 ≠ 0) : f_X12_takesSign c σ = some (false, σ) := by
  unfold f_X12_takesSign
  rw [if_neg h]
theorem m_asksSign {T : tT} (hT : tOK T) {k c : Nat} (hc : tS c = 3) (hc2 : c < 256) {σ : fhM} (h : mP T k σ) : wq (f_X12_asksSign (nI c) σ) (fun r => (isg T k c → mP T (k + 1) r) ∧ (¬ isg T k c → mF (1, fm T k) r) ∧ fr mD σ r) := by
  unfold f_X12_asksSign
  rw [if_pos h.2.2.1, wq_bind]
  refine wq_mono (m_takesSign hT hc hc2 h) ?_
  rintro ⟨d, σ1⟩ ⟨hd, hA, hB, hf⟩
  dsimp only at hd hA hB hf ⊢
  by_cases hq : isg T k c
  · rw [if_pos (hd.mpr hq), wq_some]
    exact ⟨fun _ => (hA hq).1, fun q => absurd hq q, hf⟩
  · rw [if_neg (fun q => hq (hd.mp q)), wq_let, wq_some, (hB hq).2]
    have := m_fail (q := (1, fm T k)) (hB hq).1.2.2.1
    exact ⟨fun q => absurd q hq, fun _ => this.1, fr_tr hf this.2⟩
theorem m_asksSignN {c : Int32} {σ : fhM} (h : σ.1 0 5 ≠ 0) : f_X12_asksSign c σ = some σ := by
  unfold f_X12_asksSign
  rw [if_neg h]
