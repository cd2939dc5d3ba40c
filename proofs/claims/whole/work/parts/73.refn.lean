/-! THE REFERENCE'S NUMBERS AND NAMES -/
def nmv (T : tT) (f : Nat) : Nat → Nat
  | 0 => 0
  | i + 1 => 10 * nmv T f i + (T.1 (f + i) - 48)
/-- what a number token tells -/
def nv (T : tT) (k : Nat) : Nat := nmv T (fm T k) (to T k - fm T k)
theorem nmv_lt {T : tT} {f : Nat} : ∀ i, (∀ j, j < i → tS (T.1 (f + j)) = 2) → nmv T f i < 10 ^ i := by
  intro i
  induction i with
  | zero => intro _; show 0 < 1; decide
  | succ i ih =>
    intro h
    have h1 := ih (fun j hj => h j (by omega))
    have h2 := h i (by omega)
    unfold tS at h2
    have h3 : T.1 (f + i) ≤ 57 := by
      split at h2
      · cases h2
      · split at h2
        · omega
        · cases h2
    show 10 * nmv T f i + (T.1 (f + i) - 48) < 10 ^ (i + 1)
    rw [Nat.pow_succ]
    omega
theorem tS_dig {c : Nat} (h : tS c = 2) : 48 ≤ c ∧ c ≤ 57 := by
  unfold tS at h
  split at h
  · cases h
  · split at h
    · assumption
    · cases h
theorem tS_let {c : Nat} (h : tS c = 1) : 97 ≤ c ∧ c ≤ 122 := by
  unfold tS at h
  split at h
  · assumption
  · split at h <;> cases h
theorem m_isIn {a b c : Nat} (ha : a < 2 ^ 31) (hb : b < 2 ^ 31) (hc : c < 2 ^ 31) (σ : fhM) : f_X12_isIn (lN a) (lN b) (lN c) σ = decide (b ≤ a ∧ a ≤ c) := by
  unfold f_X12_isIn
  by_cases h1 : a < b
  · rw [if_pos ((lg_cmp_lt _ _).mpr ((lN_lt ha hb).mpr h1)), decide_eq_false (by omega)]
  · rw [if_neg (fun q => h1 ((lN_lt ha hb).mp ((lg_cmp_lt _ _).mp q)))]
    by_cases h2 : c < a
    · rw [if_pos ((lg_cmp_gt _ _).mpr ((lN_lt hc ha).mpr h2)), decide_eq_false (by omega)]
    · rw [if_neg (fun q => h2 ((lN_lt hc ha).mp ((lg_cmp_gt _ _).mp q))), decide_eq_true (by omega)]
def nF (T : tT) (k lo hi : Nat) : Nat × Nat := if kd T k ≠ 2 then (1, fm T k) else if 4 < to T k - fm T k then (1, fm T k + 4) else if nv T k < lo ∨ hi < nv T k then (2, fm T k) else (0, 0)
theorem m_number {T : tT} (hT : tOK T) {k lo hi : Nat} (hlo : lo < 2 ^ 31) (hhi : hi < 2 ^ 31) {σ : fhM} (h : mP T k σ) : wq (f_X12_number (nI lo) (nI hi) σ) (fun r => ((nF T k lo hi).1 = 0 → mP T (k + 1) r.2 ∧ r.1 = nI (nv T k)) ∧ ((nF T k lo hi).1 ≠ 0 → mF (nF T k lo hi) r.2) ∧ fr mD σ r.2) := by
  unfold f_X12_number
  rw [if_pos h.2.2.1, wq_bind]
  refine wq_mono (m_look hT h) ?_
  rintro ⟨c, σ1⟩ ⟨hc, hA, hf⟩
  have hc : c = mc T k := hc
  have hA : mA T k σ1 := hA
  have hf : fr mD σ σ1 := hf
  dsimp only
  have hT2 := hT.1
  rw [hc]
  unfold mc
  have hno : kd T k ≠ 2 → wq (f_X12_number_30 σ1) (fun r => ((nF T k lo hi).1 = 0 → mP T (k + 1) r.2 ∧ r.1 = nI (nv T k)) ∧ ((nF T k lo hi).1 ≠ 0 → mF (nF T k lo hi) r.2) ∧ fr mD σ r.2) := by
    intro q
    unfold f_X12_number_30
    rw [wq_let, wq_some, hA.2]
    have e : nF T k lo hi = (1, fm T k) := by unfold nF; rw [if_pos q]
    rw [e]
    have := m_fail (q := (1, fm T k)) hA.1.2.2.1
    exact ⟨fun q => (by cases q), fun _ => this.1, fr_tr hf this.2⟩
  by_cases h0 : kd T k = 0
  · rw [if_pos h0, m_isDigitN, if_neg (by decide)]
    exact hno (by omega)
  rw [if_neg h0, m_isDigit (hT.2 _)]
  by_cases hs : tS (T.1 (fm T k)) = 2
  · rw [decide_eq_true hs, if_pos rfl, hA.2]
    by_cases hn : nI (fm T k) = σ1.1 0 4
    · rw [if_pos hn]
      refine hno (fun q => ?_)
      have hnr := kd_near (T := T) (k := k) (Or.inr q)
      have hfl := fm_le T k
      have hge := fm_ge T k
      have hle := ts_le T k
      cases he : (ts T k).2 with
      | true =>
        have e1 := hA.1.2.2.2.2.1 he
        rw [e1, nI_eq (by omega) (by omega)] at hn
        exact hnr ⟨he, hn⟩
      | false => exact hA.1.2.2.2.2.2.1 he (fm T k) hge (by omega) hn.symm
    · rw [if_neg hn]
      have hk1 : kd T k = 2 := by
        have e := (kd_is h0).1
        by_cases q : tS (T.1 (fm T k)) ≠ 3 ∧ (ts T k).2 = true ∧ fm T k = (ts T k).1
        · exact absurd (by rw [hA.1.2.2.2.2.1 q.2.1, q.2.2]) hn
        · rw [if_neg q] at e
          omega
      have hfl := kd_pos h0
      have htl := to_le T k
      have hgt := to_gt h0
      have hdig : ∀ j, fm T k ≤ j → j < to T k → tS (T.1 j) = 2 := fun j h1 h2 => (lt_sort h0 (by omega) h1 h2).trans hs
      have hdl : ∀ i, i ≤ to T k - fm T k → ∀ j, j < i → tS (T.1 (fm T k + j)) = 2 := fun i hi j hj => hdig _ (by omega) (by omega)
      refine wq_for (R := fun i x => x.1 = nI (nmv T (fm T k) (i - fm T k)) ∧ i ≤ fm T k + 4 ∧ mP T k (fhI x.2 0 2 (nI (fm T k))) ∧ x.2.1 0 2 = nI i ∧ fr mD σ x.2) (fm T k) (to T k) (by omega) ?_ ?_ ⟨by rw [Nat.sub_self]; rfl, by omega, mP_at hA.1 (fm_ge T k) (Nat.le_refl _), hA.2, hf⟩
      · rintro i ⟨acc, x⟩ h1 h2 ⟨e1, e2, e3, e4, e5⟩
        dsimp only at e1 e2 e3 e4 e5 ⊢
        unfold f_X12_number_49
        have hsi := hdig i h1 h2
        have hen : x.1 0 3 = nI T.2 := by have := e3.2.1; rwa [fhI_r, if_neg (by omega)] at this
        have hby : x.1 1 i = nI (T.1 i) := by have := mP_b e3 (i := i) (by omega); rwa [fhI_r, if_neg (by omega)] at this
        have hbad : x.1 0 5 = 0 := by have := e3.2.2.1; rwa [fhI_r, if_neg (by omega)] at this
        rw [hen, e4, if_neg (nI_ge (by omega) (by omega)), if_pos (ph_in1 (by omega) (by omega)), ph_ix (by omega), hby, m_isDigit (hT.2 _), decide_eq_true hsi, if_pos rfl, pk_sub h1, show (4 : Int32) = nI 4 from rfl]
        by_cases h4 : i - fm T k = 4
        · rw [if_pos (by rw [h4]), wq_let, wq_some, fhK_r]
          have e : nF T k lo hi = (1, fm T k + 4) := by unfold nF; rw [if_neg (by omega), if_pos (by omega)]
          rw [e, show i = fm T k + 4 by omega]
          have := m_fail (q := (1, fm T k + 4)) hbad
          exact ⟨fun q => (by cases q), fun _ => this.1, fr_tr e5 this.2⟩
        · have hd := tS_dig hsi
          have hlt := nmv_lt (T := T) (f := fm T k) (i - fm T k) (hdl _ (by omega))
          have hp : (10 : Nat) ^ (i - fm T k) ≤ 10 ^ 3 := Nat.pow_le_pow_right (by decide) (by omega)
          rw [if_neg (fun q => h4 ((nI_eq (by omega) (by decide)).mp q)), if_pos (ph_in1 (by omega) (by omega)), wq_let, wq_some, fhK_l, e1, show (10 : Int32) = nI 10 from rfl, pk_mul, nI_add, show (48 : Int32) = nI 48 from rfl, pk_sub (by omega), nI_1]
          refine ⟨?_, by omega, ?_, by rw [fhI_r, if_pos ⟨rfl, rfl⟩], fr_I e5 ⟨rfl, by omega⟩⟩
          · show nI _ = nI _
            congr 1
            rw [show i + 1 - fm T k = (i - fm T k) + 1 by omega]
            show _ = 10 * nmv T (fm T k) (i - fm T k) + (T.1 (fm T k + (i - fm T k)) - 48)
            rw [show fm T k + (i - fm T k) = i by omega]
            omega
          · refine mP_fr e3 (fun q hq => ?_) ?_ ?_ ?_ ?_ ?_
            · simp only [fhI_r]; rw [if_neg (by omega), if_neg (by omega), if_neg (by omega)]
            · simp only [fhI_r]; rfl
            · simp only [fhI_r]; rfl
            · simp only [fhI_r]; rfl
            · simp only [fhI_r]; rfl
            · simp only [fhI_r]; rfl
      · rintro ⟨acc, x⟩ ⟨e1, e2, e3, e4, e5⟩
        dsimp only at e1 e2 e3 e4 e5 ⊢
        have hen : x.1 0 3 = nI T.2 := by have := e3.2.1; rwa [fhI_r, if_neg (by omega)] at this
        have hbad : x.1 0 5 = 0 := by have := e3.2.2.1; rwa [fhI_r, if_neg (by omega)] at this
        have hlt := nmv_lt (T := T) (f := fm T k) (to T k - fm T k) (hdl _ (Nat.le_refl _))
        have hp : (10 : Nat) ^ (to T k - fm T k) ≤ 10 ^ 4 := Nat.pow_le_pow_right (by decide) (by omega)
        have fin : wq (Option.map Sum.inr (f_X12_number_129 (nI lo) (nI hi) (nI (fm T k)) acc x)) (fhK (fun _ : Int32 × fhM => False) (fun r => ((nF T k lo hi).1 = 0 → mP T (k + 1) r.2 ∧ r.1 = nI (nv T k)) ∧ ((nF T k lo hi).1 ≠ 0 → mF (nF T k lo hi) r.2) ∧ fr mD σ r.2)) := by
          rw [wq_map]
          simp only [fhK_r]
          unfold f_X12_number_129
          have e1' : acc = nI (nv T k) := e1
          have hnv : nv T k < 10 ^ 4 := by unfold nv; omega
          rw [e1', nI_l (by omega), nI_l hlo, nI_l hhi, m_isIn (by omega) hlo hhi, e4]
          have hmp : mP T (k + 1) (fhI (fhI x 0 4 (nI (to T k))) 0 10 (nI (fm T k))) := by
            refine mP_fr (mP_next hT e3 (Or.inr hk1)) (fun q hq => ?_) ?_ ?_ ?_ ?_ ?_
            · simp only [fhI_r]; rw [if_neg (by omega), if_neg (by omega), if_neg (by omega), if_neg (by omega), if_neg (by omega)]
            · simp only [fhI_r]; exact e4
            · simp only [fhI_r]; rfl
            · simp only [fhI_r]; rfl
            · simp only [fhI_r]; rfl
            · simp only [fhI_r]; rfl
          have hff : fr mD σ (fhI (fhI x 0 4 (nI (to T k))) 0 10 (nI (fm T k))) := fr_I (fr_I e5 ⟨rfl, by omega⟩) ⟨rfl, by omega⟩
          by_cases hr : lo ≤ nv T k ∧ nv T k ≤ hi
          · rw [decide_eq_true hr, if_pos rfl, wq_some]
            have e : nF T k lo hi = (0, 0) := by unfold nF; rw [if_neg (by omega), if_neg (by omega), if_neg (by omega)]
            rw [e]
            exact ⟨fun _ => ⟨hmp, rfl⟩, fun q => absurd rfl q, hff⟩
          · rw [decide_eq_false hr, if_neg (by decide), wq_let, wq_some]
            have e : nF T k lo hi = (2, fm T k) := by unfold nF; rw [if_neg (by omega), if_neg (by omega), if_pos (by omega)]
            rw [e]
            have := m_fail (q := (2, fm T k)) hmp.2.2.1
            exact ⟨fun q => (by cases q), fun _ => this.1, fr_tr hff this.2⟩
        unfold f_X12_number_49
        rw [hen, e4]
        by_cases he : T.2 ≤ to T k
        · rw [if_pos (nI_le he (by omega))]
          exact fin
        · have hse := to_sort h0 (by omega) (show to T k < T.2 by omega)
          have hby : x.1 1 (to T k) = nI (T.1 (to T k)) := by have := mP_b e3 (i := to T k) (by omega); rwa [fhI_r, if_neg (by omega)] at this
          rw [if_neg (nI_ge (by omega) (by omega)), if_pos (ph_in1 (by omega) (by omega)), ph_ix (by omega), hby, m_isDigit (hT.2 _), decide_eq_false (by omega), if_neg (by decide)]
          exact fin
  · rw [decide_eq_false hs, if_neg (by decide)]
    refine hno (fun q => ?_)
    have := kd_13 (T := T) (k := k) (Or.inr (Or.inl q))
    omega
theorem m_numberN {a b : Int32} {σ : fhM} (h : σ.1 0 5 ≠ 0) : f_X12_number a b σ = some (0, σ) := by
  unfold f_X12_number
  rw [if_neg h]
/-- the words as the reference has them, by place -/
def wd (v : Nat) : List Nat := match v with
  | 3 => [109, 97, 114, 107, 115]
  | 4 => [103, 117, 101, 115, 116]
  | 5 => [119, 101, 97, 114, 115]
  | 6 => [98, 108, 105, 110, 100]
  | 7 => [116, 111]
  | 8 => [114, 117, 108, 101]
  | 9 => [102, 97, 99, 116]
  | 10 => [115, 108, 105, 112]
  | 11 => [115, 117, 109]
  | 12 => [116, 111, 112]
  | 13 => [108, 111, 119]
  | 14 => [107, 105, 110, 100, 115]
  | 15 => [99, 111, 117, 110, 116]
  | 16 => [110, 117, 109, 98, 101, 114]
  | 17 => [109, 97, 114, 107]
  | 18 => [114, 111, 119, 115]
  | 19 => [107, 110, 111, 119, 115]
  | 20 => [114, 111, 117, 110, 100]
  | 21 => [115, 101, 101, 115]
  | 22 => [99, 111, 117, 108, 100]
  | 23 => [111, 114]
  | 24 => [97, 110, 100]
  | 25 => [110, 111, 116]
  | 26 => [97, 108, 108]
  | 27 => [109, 105, 110]
  | 28 => [109, 97, 120]
  | 52 => [102, 105, 114, 115, 116]
  | 53 => [108, 97, 115, 116]
  | 54 => [111, 102, 116, 101, 110]
  | 55 => [116, 111, 116, 97, 108]
  | 56 => [109, 111, 115, 116]
  | 57 => [108, 101, 97, 115, 116]
  | 58 => [110, 111, 116]
  | 59 => [97, 110, 100]
  | 60 => [111, 114]
  | 61 => [97, 108, 108]
  | 62 => [109, 105, 110]
  | 63 => [109, 97, 120]
  | 64 => [115, 117, 109]
  | 65 => [116, 111, 112]
  | 66 => [108, 111, 119]
  | 67 => [107, 105, 110, 100, 115]
  | 68 => [110, 117, 109, 98, 101, 114]
  | 69 => [109, 97, 114, 107]
  | 70 => [114, 111, 119, 115]
  | 71 => [107, 110, 111, 119, 115]
  | 72 => [114, 111, 117, 110, 100]
  | 73 => [99, 111, 117, 110, 116]
  | 74 => [115, 101, 101, 115]
  | 75 => [99, 111, 117, 108, 100]
  | _ => []
def mW (σ : fhM) : Prop := ∀ v i, i < (wd v).length → σ.1 v i = nI ((wd v).getD i 0)
theorem mW_fr {σ σ' : fhM} (h : mW σ) (hf : ∀ v i, 2 < v → i < (wd v).length → σ'.1 v i = σ.1 v i) : mW σ' := by
  intro v i hi
  have hv : 2 < v := by
    rcases Nat.lt_or_ge 2 v with q | q
    · exact q
    · exfalso
      have : v = 0 ∨ v = 1 ∨ v = 2 := by omega
      rcases this with rfl | rfl | rfl <;> exact Nat.not_lt_zero _ hi
  rw [hf v i hv hi]
  exact h v i hi
theorem mW_m {σ σ' : fhM} (h : mW σ) (hf : fr mD σ σ') : mW σ' := mW_fr h (fun v i hv _ => hf.2 v i (fun q => by have := q.1; omega))
theorem wd_let : ∀ v, v < 80 → ∀ c ∈ wd v, c < 256 ∧ tS c = 1 := by decide
theorem mW_at {σ : fhM} (h : mW σ) (v : Nat) (hv : v < 80) (hl : (fhYM.1 v).2.2 = (wd v).length) (h0 : 0 < (wd v).length) (h9 : (wd v).length < 100) (h2 : 2 ≤ v) : mWd v (wd v) σ := by
  refine ⟨hl, fun i hi => ?_, h0, h9, h2⟩
  have e := h v i hi
  have e2 : (wd v)[i]? = some ((wd v).getD i 0) := by
    rw [List.getD_eq_getElem?_getD, List.getElem?_eq_getElem hi]
    rfl
  have e3 := wd_let v hv _ (List.mem_of_getElem? e2)
  exact ⟨_, e2, e3.1, e3.2, e⟩
theorem mw3 {σ : fhM} (h : mW σ) : mWd 3 [109, 97, 114, 107, 115] σ := mW_at h 3 (by decide) rfl (by decide) (by decide) (by decide)
theorem mw4 {σ : fhM} (h : mW σ) : mWd 4 [103, 117, 101, 115, 116] σ := mW_at h 4 (by decide) rfl (by decide) (by decide) (by decide)
theorem mw5 {σ : fhM} (h : mW σ) : mWd 5 [119, 101, 97, 114, 115] σ := mW_at h 5 (by decide) rfl (by decide) (by decide) (by decide)
theorem mw6 {σ : fhM} (h : mW σ) : mWd 6 [98, 108, 105, 110, 100] σ := mW_at h 6 (by decide) rfl (by decide) (by decide) (by decide)
theorem mw7 {σ : fhM} (h : mW σ) : mWd 7 [116, 111] σ := mW_at h 7 (by decide) rfl (by decide) (by decide) (by decide)
theorem mw8 {σ : fhM} (h : mW σ) : mWd 8 [114, 117, 108, 101] σ := mW_at h 8 (by decide) rfl (by decide) (by decide) (by decide)
theorem mw9 {σ : fhM} (h : mW σ) : mWd 9 [102, 97, 99, 116] σ := mW_at h 9 (by decide) rfl (by decide) (by decide) (by decide)
theorem mw10 {σ : fhM} (h : mW σ) : mWd 10 [115, 108, 105, 112] σ := mW_at h 10 (by decide) rfl (by decide) (by decide) (by decide)
theorem mw11 {σ : fhM} (h : mW σ) : mWd 11 [115, 117, 109] σ := mW_at h 11 (by decide) rfl (by decide) (by decide) (by decide)
theorem mw12 {σ : fhM} (h : mW σ) : mWd 12 [116, 111, 112] σ := mW_at h 12 (by decide) rfl (by decide) (by decide) (by decide)
theorem mw13 {σ : fhM} (h : mW σ) : mWd 13 [108, 111, 119] σ := mW_at h 13 (by decide) rfl (by decide) (by decide) (by decide)
theorem mw14 {σ : fhM} (h : mW σ) : mWd 14 [107, 105, 110, 100, 115] σ := mW_at h 14 (by decide) rfl (by decide) (by decide) (by decide)
theorem mw15 {σ : fhM} (h : mW σ) : mWd 15 [99, 111, 117, 110, 116] σ := mW_at h 15 (by decide) rfl (by decide) (by decide) (by decide)
theorem mw16 {σ : fhM} (h : mW σ) : mWd 16 [110, 117, 109, 98, 101, 114] σ := mW_at h 16 (by decide) rfl (by decide) (by decide) (by decide)
theorem mw17 {σ : fhM} (h : mW σ) : mWd 17 [109, 97, 114, 107] σ := mW_at h 17 (by decide) rfl (by decide) (by decide) (by decide)
theorem mw18 {σ : fhM} (h : mW σ) : mWd 18 [114, 111, 119, 115] σ := mW_at h 18 (by decide) rfl (by decide) (by decide) (by decide)
theorem mw19 {σ : fhM} (h : mW σ) : mWd 19 [107, 110, 111, 119, 115] σ := mW_at h 19 (by decide) rfl (by decide) (by decide) (by decide)
theorem mw20 {σ : fhM} (h : mW σ) : mWd 20 [114, 111, 117, 110, 100] σ := mW_at h 20 (by decide) rfl (by decide) (by decide) (by decide)
theorem mw21 {σ : fhM} (h : mW σ) : mWd 21 [115, 101, 101, 115] σ := mW_at h 21 (by decide) rfl (by decide) (by decide) (by decide)
theorem mw22 {σ : fhM} (h : mW σ) : mWd 22 [99, 111, 117, 108, 100] σ := mW_at h 22 (by decide) rfl (by decide) (by decide) (by decide)
theorem mw23 {σ : fhM} (h : mW σ) : mWd 23 [111, 114] σ := mW_at h 23 (by decide) rfl (by decide) (by decide) (by decide)
theorem mw24 {σ : fhM} (h : mW σ) : mWd 24 [97, 110, 100] σ := mW_at h 24 (by decide) rfl (by decide) (by decide) (by decide)
theorem mw25 {σ : fhM} (h : mW σ) : mWd 25 [110, 111, 116] σ := mW_at h 25 (by decide) rfl (by decide) (by decide) (by decide)
theorem mw26 {σ : fhM} (h : mW σ) : mWd 26 [97, 108, 108] σ := mW_at h 26 (by decide) rfl (by decide) (by decide) (by decide)
theorem mw27 {σ : fhM} (h : mW σ) : mWd 27 [109, 105, 110] σ := mW_at h 27 (by decide) rfl (by decide) (by decide) (by decide)
theorem mw28 {σ : fhM} (h : mW σ) : mWd 28 [109, 97, 120] σ := mW_at h 28 (by decide) rfl (by decide) (by decide) (by decide)
theorem mw52 {σ : fhM} (h : mW σ) : mWd 52 [102, 105, 114, 115, 116] σ := mW_at h 52 (by decide) rfl (by decide) (by decide) (by decide)
theorem mw53 {σ : fhM} (h : mW σ) : mWd 53 [108, 97, 115, 116] σ := mW_at h 53 (by decide) rfl (by decide) (by decide) (by decide)
theorem mw54 {σ : fhM} (h : mW σ) : mWd 54 [111, 102, 116, 101, 110] σ := mW_at h 54 (by decide) rfl (by decide) (by decide) (by decide)
theorem mw55 {σ : fhM} (h : mW σ) : mWd 55 [116, 111, 116, 97, 108] σ := mW_at h 55 (by decide) rfl (by decide) (by decide) (by decide)
theorem mw56 {σ : fhM} (h : mW σ) : mWd 56 [109, 111, 115, 116] σ := mW_at h 56 (by decide) rfl (by decide) (by decide) (by decide)
theorem mw57 {σ : fhM} (h : mW σ) : mWd 57 [108, 101, 97, 115, 116] σ := mW_at h 57 (by decide) rfl (by decide) (by decide) (by decide)
theorem mw58 {σ : fhM} (h : mW σ) : mWd 58 [110, 111, 116] σ := mW_at h 58 (by decide) rfl (by decide) (by decide) (by decide)
theorem mw59 {σ : fhM} (h : mW σ) : mWd 59 [97, 110, 100] σ := mW_at h 59 (by decide) rfl (by decide) (by decide) (by decide)
theorem mw60 {σ : fhM} (h : mW σ) : mWd 60 [111, 114] σ := mW_at h 60 (by decide) rfl (by decide) (by decide) (by decide)
theorem mw61 {σ : fhM} (h : mW σ) : mWd 61 [97, 108, 108] σ := mW_at h 61 (by decide) rfl (by decide) (by decide) (by decide)
theorem mw62 {σ : fhM} (h : mW σ) : mWd 62 [109, 105, 110] σ := mW_at h 62 (by decide) rfl (by decide) (by decide) (by decide)
theorem mw63 {σ : fhM} (h : mW σ) : mWd 63 [109, 97, 120] σ := mW_at h 63 (by decide) rfl (by decide) (by decide) (by decide)
theorem mw64 {σ : fhM} (h : mW σ) : mWd 64 [115, 117, 109] σ := mW_at h 64 (by decide) rfl (by decide) (by decide) (by decide)
theorem mw65 {σ : fhM} (h : mW σ) : mWd 65 [116, 111, 112] σ := mW_at h 65 (by decide) rfl (by decide) (by decide) (by decide)
theorem mw66 {σ : fhM} (h : mW σ) : mWd 66 [108, 111, 119] σ := mW_at h 66 (by decide) rfl (by decide) (by decide) (by decide)
theorem mw67 {σ : fhM} (h : mW σ) : mWd 67 [107, 105, 110, 100, 115] σ := mW_at h 67 (by decide) rfl (by decide) (by decide) (by decide)
theorem mw68 {σ : fhM} (h : mW σ) : mWd 68 [110, 117, 109, 98, 101, 114] σ := mW_at h 68 (by decide) rfl (by decide) (by decide) (by decide)
theorem mw69 {σ : fhM} (h : mW σ) : mWd 69 [109, 97, 114, 107] σ := mW_at h 69 (by decide) rfl (by decide) (by decide) (by decide)
theorem mw70 {σ : fhM} (h : mW σ) : mWd 70 [114, 111, 119, 115] σ := mW_at h 70 (by decide) rfl (by decide) (by decide) (by decide)
theorem mw71 {σ : fhM} (h : mW σ) : mWd 71 [107, 110, 111, 119, 115] σ := mW_at h 71 (by decide) rfl (by decide) (by decide) (by decide)
theorem mw72 {σ : fhM} (h : mW σ) : mWd 72 [114, 111, 117, 110, 100] σ := mW_at h 72 (by decide) rfl (by decide) (by decide) (by decide)
theorem mw73 {σ : fhM} (h : mW σ) : mWd 73 [99, 111, 117, 110, 116] σ := mW_at h 73 (by decide) rfl (by decide) (by decide) (by decide)
theorem mw74 {σ : fhM} (h : mW σ) : mWd 74 [115, 101, 101, 115] σ := mW_at h 74 (by decide) rfl (by decide) (by decide) (by decide)
theorem mw75 {σ : fhM} (h : mW σ) : mWd 75 [99, 111, 117, 108, 100] σ := mW_at h 75 (by decide) rfl (by decide) (by decide) (by decide)
/-- OWN WORDS -/
def oww : List (List Nat) := [[109, 97, 114, 107, 115], [103, 117, 101, 115, 116], [119, 101, 97, 114, 115], [98, 108, 105, 110, 100], [116, 111], [114, 117, 108, 101], [102, 97, 99, 116], [115, 108, 105, 112], [115, 117, 109], [116, 111, 112], [108, 111, 119], [107, 105, 110, 100, 115], [99, 111, 117, 110, 116], [110, 117, 109, 98, 101, 114], [109, 97, 114, 107], [114, 111, 119, 115], [107, 110, 111, 119, 115], [114, 111, 117, 110, 100], [115, 101, 101, 115], [99, 111, 117, 108, 100], [111, 114], [97, 110, 100], [110, 111, 116], [97, 108, 108], [109, 105, 110], [109, 97, 120]]
def isOw (T : tT) (k : Nat) : Prop := kd T k = 1 ∧ lt T k ∈ oww
theorem m_own {T : tT} (hT : tOK T) {k : Nat} {σ : fhM} (h : mP T k σ) (hw : mW σ) : wq (f_X12_isOwnHere σ) (fun r => (r.1 = true ↔ isOw T k) ∧ mA T k r.2 ∧ fr mD σ r.2) := by
  have end1 : ∀ (x : fhM) (b : Bool), mA T k x → fr mD σ x → (b = true ↔ isOw T k) → wq (f_X12_isOwnHere_331 b x) (fun r => (r.1 = true ↔ isOw T k) ∧ mA T k r.2 ∧ fr mD σ r.2) := by
    intro x b hA hf hb
    unfold f_X12_isOwnHere_331
    rw [wq_some]
    exact ⟨hb, hA, hf⟩
  have y326 : ∀ (x : fhM), mA T k x → fr mD σ x → isOw T k → wq (f_X12_isOwnHere_326 x) (fun r => (r.1 = true ↔ isOw T k) ∧ mA T k r.2 ∧ fr mD σ r.2) := by
    intro x hA hf ho
    unfold f_X12_isOwnHere_326
    exact end1 x true hA hf ⟨fun _ => ho, fun _ => rfl⟩
  have y294 : ∀ (x : fhM), mA T k x → fr mD σ x → isOw T k → wq (f_X12_isOwnHere_294 x) (fun r => (r.1 = true ↔ isOw T k) ∧ mA T k r.2 ∧ fr mD σ r.2) := by
    intro x hA hf ho
    unfold f_X12_isOwnHere_294 f_X12_isOwnHere_299
    rw [if_neg (by decide)]
    exact y326 x hA hf ho
  have y218 : ∀ (x : fhM), mA T k x → fr mD σ x → isOw T k → wq (f_X12_isOwnHere_218 x) (fun r => (r.1 = true ↔ isOw T k) ∧ mA T k r.2 ∧ fr mD σ r.2) := by
    intro x hA hf ho
    unfold f_X12_isOwnHere_218 f_X12_isOwnHere_223
    rw [if_neg (by decide)]
    exact y294 x hA hf ho
  have y142 : ∀ (x : fhM), mA T k x → fr mD σ x → isOw T k → wq (f_X12_isOwnHere_142 x) (fun r => (r.1 = true ↔ isOw T k) ∧ mA T k r.2 ∧ fr mD σ r.2) := by
    intro x hA hf ho
    unfold f_X12_isOwnHere_142 f_X12_isOwnHere_147
    rw [if_neg (by decide)]
    exact y218 x hA hf ho
  have y66 : ∀ (x : fhM), mA T k x → fr mD σ x → isOw T k → wq (f_X12_isOwnHere_66 x) (fun r => (r.1 = true ↔ isOw T k) ∧ mA T k r.2 ∧ fr mD σ r.2) := by
    intro x hA hf ho
    unfold f_X12_isOwnHere_66 f_X12_isOwnHere_71
    rw [if_neg (by decide)]
    exact y142 x hA hf ho
  have n299 : ∀ (x : fhM), mA T k x → fr mD σ x → ¬ (kd T k = 1 ∧ lt T k = [109, 97, 114, 107, 115]) → ¬ (kd T k = 1 ∧ lt T k = [103, 117, 101, 115, 116]) → ¬ (kd T k = 1 ∧ lt T k = [119, 101, 97, 114, 115]) → ¬ (kd T k = 1 ∧ lt T k = [98, 108, 105, 110, 100]) → ¬ (kd T k = 1 ∧ lt T k = [116, 111]) → ¬ (kd T k = 1 ∧ lt T k = [114, 117, 108, 101]) → ¬ (kd T k = 1 ∧ lt T k = [102, 97, 99, 116]) → ¬ (kd T k = 1 ∧ lt T k = [115, 108, 105, 112]) → ¬ (kd T k = 1 ∧ lt T k = [115, 117, 109]) → ¬ (kd T k = 1 ∧ lt T k = [116, 111, 112]) → ¬ (kd T k = 1 ∧ lt T k = [108, 111, 119]) → ¬ (kd T k = 1 ∧ lt T k = [107, 105, 110, 100, 115]) → ¬ (kd T k = 1 ∧ lt T k = [99, 111, 117, 110, 116]) → ¬ (kd T k = 1 ∧ lt T k = [110, 117, 109, 98, 101, 114]) → ¬ (kd T k = 1 ∧ lt T k = [109, 97, 114, 107]) → ¬ (kd T k = 1 ∧ lt T k = [114, 111, 119, 115]) → ¬ (kd T k = 1 ∧ lt T k = [107, 110, 111, 119, 115]) → ¬ (kd T k = 1 ∧ lt T k = [114, 111, 117, 110, 100]) → ¬ (kd T k = 1 ∧ lt T k = [115, 101, 101, 115]) → ¬ (kd T k = 1 ∧ lt T k = [99, 111, 117, 108, 100]) → ¬ (kd T k = 1 ∧ lt T k = [111, 114]) → ¬ (kd T k = 1 ∧ lt T k = [97, 110, 100]) → ¬ (kd T k = 1 ∧ lt T k = [110, 111, 116]) → ¬ (kd T k = 1 ∧ lt T k = [97, 108, 108]) → wq (f_X12_isOwnHere_299 0 x) (fun r => (r.1 = true ↔ isOw T k) ∧ mA T k r.2 ∧ fr mD σ r.2) := by
    intro x hA hf hq3 hq4 hq5 hq6 hq7 hq8 hq9 hq10 hq11 hq12 hq13 hq14 hq15 hq16 hq17 hq18 hq19 hq20 hq21 hq22 hq23 hq24 hq25 hq26
    unfold f_X12_isOwnHere_299
    rw [if_pos rfl]
    rw [wq_bind]
    refine wq_mono (m_isHere hT hA.1 (mw27 (mW_m hw hf))) ?_
    rintro ⟨c, y⟩ ⟨hc, hB, hg⟩
    have hB : mA T k y := hB
    replace hf : fr mD σ y := fr_tr hf hg
    replace hA := hB
    dsimp only at hc ⊢
    by_cases hq27 : kd T k = 1 ∧ lt T k = [109, 105, 110]
    · rw [hc, decide_eq_true hq27, if_pos rfl]
      exact y326 y hA hf ⟨hq27.1, by rw [hq27.2]; decide⟩
    rw [hc, decide_eq_false hq27, if_neg (by decide)]
    clear hc hB hg
    rw [wq_bind]
    refine wq_mono (m_isHere hT hA.1 (mw28 (mW_m hw hf))) ?_
    rintro ⟨c, y⟩ ⟨hc, hB, hg⟩
    have hB : mA T k y := hB
    replace hf : fr mD σ y := fr_tr hf hg
    replace hA := hB
    dsimp only at hc ⊢
    by_cases hq28 : kd T k = 1 ∧ lt T k = [109, 97, 120]
    · rw [hc, decide_eq_true hq28, if_pos rfl]
      exact y326 y hA hf ⟨hq28.1, by rw [hq28.2]; decide⟩
    rw [hc, decide_eq_false hq28, if_neg (by decide)]
    clear hc hB hg
    refine end1 y false hA hf ⟨fun q => (by cases q), fun q => ?_⟩
    exfalso
    obtain ⟨q1, q2⟩ := q
    unfold oww at q2
    simp only [List.mem_cons, List.not_mem_nil, or_false] at q2
    rcases q2 with q | q | q | q | q | q | q | q | q | q | q | q | q | q | q | q | q | q | q | q | q | q | q | q | q | q
    · exact hq3 ⟨q1, q⟩
    · exact hq4 ⟨q1, q⟩
    · exact hq5 ⟨q1, q⟩
    · exact hq6 ⟨q1, q⟩
    · exact hq7 ⟨q1, q⟩
    · exact hq8 ⟨q1, q⟩
    · exact hq9 ⟨q1, q⟩
    · exact hq10 ⟨q1, q⟩
    · exact hq11 ⟨q1, q⟩
    · exact hq12 ⟨q1, q⟩
    · exact hq13 ⟨q1, q⟩
    · exact hq14 ⟨q1, q⟩
    · exact hq15 ⟨q1, q⟩
    · exact hq16 ⟨q1, q⟩
    · exact hq17 ⟨q1, q⟩
    · exact hq18 ⟨q1, q⟩
    · exact hq19 ⟨q1, q⟩
    · exact hq20 ⟨q1, q⟩
    · exact hq21 ⟨q1, q⟩
    · exact hq22 ⟨q1, q⟩
    · exact hq23 ⟨q1, q⟩
    · exact hq24 ⟨q1, q⟩
    · exact hq25 ⟨q1, q⟩
    · exact hq26 ⟨q1, q⟩
    · exact hq27 ⟨q1, q⟩
    · exact hq28 ⟨q1, q⟩
  have n223 : ∀ (x : fhM), mA T k x → fr mD σ x → ¬ (kd T k = 1 ∧ lt T k = [109, 97, 114, 107, 115]) → ¬ (kd T k = 1 ∧ lt T k = [103, 117, 101, 115, 116]) → ¬ (kd T k = 1 ∧ lt T k = [119, 101, 97, 114, 115]) → ¬ (kd T k = 1 ∧ lt T k = [98, 108, 105, 110, 100]) → ¬ (kd T k = 1 ∧ lt T k = [116, 111]) → ¬ (kd T k = 1 ∧ lt T k = [114, 117, 108, 101]) → ¬ (kd T k = 1 ∧ lt T k = [102, 97, 99, 116]) → ¬ (kd T k = 1 ∧ lt T k = [115, 108, 105, 112]) → ¬ (kd T k = 1 ∧ lt T k = [115, 117, 109]) → ¬ (kd T k = 1 ∧ lt T k = [116, 111, 112]) → ¬ (kd T k = 1 ∧ lt T k = [108, 111, 119]) → ¬ (kd T k = 1 ∧ lt T k = [107, 105, 110, 100, 115]) → ¬ (kd T k = 1 ∧ lt T k = [99, 111, 117, 110, 116]) → ¬ (kd T k = 1 ∧ lt T k = [110, 117, 109, 98, 101, 114]) → ¬ (kd T k = 1 ∧ lt T k = [109, 97, 114, 107]) → ¬ (kd T k = 1 ∧ lt T k = [114, 111, 119, 115]) → ¬ (kd T k = 1 ∧ lt T k = [107, 110, 111, 119, 115]) → ¬ (kd T k = 1 ∧ lt T k = [114, 111, 117, 110, 100]) → wq (f_X12_isOwnHere_223 0 x) (fun r => (r.1 = true ↔ isOw T k) ∧ mA T k r.2 ∧ fr mD σ r.2) := by
    intro x hA hf hq3 hq4 hq5 hq6 hq7 hq8 hq9 hq10 hq11 hq12 hq13 hq14 hq15 hq16 hq17 hq18 hq19 hq20
    unfold f_X12_isOwnHere_223
    rw [if_pos rfl]
    rw [wq_bind]
    refine wq_mono (m_isHere hT hA.1 (mw21 (mW_m hw hf))) ?_
    rintro ⟨c, y⟩ ⟨hc, hB, hg⟩
    have hB : mA T k y := hB
    replace hf : fr mD σ y := fr_tr hf hg
    replace hA := hB
    dsimp only at hc ⊢
    by_cases hq21 : kd T k = 1 ∧ lt T k = [115, 101, 101, 115]
    · rw [hc, decide_eq_true hq21, if_pos rfl]
      exact y294 y hA hf ⟨hq21.1, by rw [hq21.2]; decide⟩
    rw [hc, decide_eq_false hq21, if_neg (by decide)]
    clear hc hB hg
    rw [wq_bind]
    refine wq_mono (m_isHere hT hA.1 (mw22 (mW_m hw hf))) ?_
    rintro ⟨c, y⟩ ⟨hc, hB, hg⟩
    have hB : mA T k y := hB
    replace hf : fr mD σ y := fr_tr hf hg
    replace hA := hB
    dsimp only at hc ⊢
    by_cases hq22 : kd T k = 1 ∧ lt T k = [99, 111, 117, 108, 100]
    · rw [hc, decide_eq_true hq22, if_pos rfl]
      exact y294 y hA hf ⟨hq22.1, by rw [hq22.2]; decide⟩
    rw [hc, decide_eq_false hq22, if_neg (by decide)]
    clear hc hB hg
    rw [wq_bind]
    refine wq_mono (m_isHere hT hA.1 (mw23 (mW_m hw hf))) ?_
    rintro ⟨c, y⟩ ⟨hc, hB, hg⟩
    have hB : mA T k y := hB
    replace hf : fr mD σ y := fr_tr hf hg
    replace hA := hB
    dsimp only at hc ⊢
    by_cases hq23 : kd T k = 1 ∧ lt T k = [111, 114]
    · rw [hc, decide_eq_true hq23, if_pos rfl]
      exact y294 y hA hf ⟨hq23.1, by rw [hq23.2]; decide⟩
    rw [hc, decide_eq_false hq23, if_neg (by decide)]
    clear hc hB hg
    rw [wq_bind]
    refine wq_mono (m_isHere hT hA.1 (mw24 (mW_m hw hf))) ?_
    rintro ⟨c, y⟩ ⟨hc, hB, hg⟩
    have hB : mA T k y := hB
    replace hf : fr mD σ y := fr_tr hf hg
    replace hA := hB
    dsimp only at hc ⊢
    by_cases hq24 : kd T k = 1 ∧ lt T k = [97, 110, 100]
    · rw [hc, decide_eq_true hq24, if_pos rfl]
      exact y294 y hA hf ⟨hq24.1, by rw [hq24.2]; decide⟩
    rw [hc, decide_eq_false hq24, if_neg (by decide)]
    clear hc hB hg
    rw [wq_bind]
    refine wq_mono (m_isHere hT hA.1 (mw25 (mW_m hw hf))) ?_
    rintro ⟨c, y⟩ ⟨hc, hB, hg⟩
    have hB : mA T k y := hB
    replace hf : fr mD σ y := fr_tr hf hg
    replace hA := hB
    dsimp only at hc ⊢
    by_cases hq25 : kd T k = 1 ∧ lt T k = [110, 111, 116]
    · rw [hc, decide_eq_true hq25, if_pos rfl]
      exact y294 y hA hf ⟨hq25.1, by rw [hq25.2]; decide⟩
    rw [hc, decide_eq_false hq25, if_neg (by decide)]
    clear hc hB hg
    rw [wq_bind]
    refine wq_mono (m_isHere hT hA.1 (mw26 (mW_m hw hf))) ?_
    rintro ⟨c, y⟩ ⟨hc, hB, hg⟩
    have hB : mA T k y := hB
    replace hf : fr mD σ y := fr_tr hf hg
    replace hA := hB
    dsimp only at hc ⊢
    by_cases hq26 : kd T k = 1 ∧ lt T k = [97, 108, 108]
    · rw [hc, decide_eq_true hq26, if_pos rfl]
      exact y294 y hA hf ⟨hq26.1, by rw [hq26.2]; decide⟩
    rw [hc, decide_eq_false hq26, if_neg (by decide)]
    clear hc hB hg
    exact n299 y hA hf hq3 hq4 hq5 hq6 hq7 hq8 hq9 hq10 hq11 hq12 hq13 hq14 hq15 hq16 hq17 hq18 hq19 hq20 hq21 hq22 hq23 hq24 hq25 hq26
  have n147 : ∀ (x : fhM), mA T k x → fr mD σ x → ¬ (kd T k = 1 ∧ lt T k = [109, 97, 114, 107, 115]) → ¬ (kd T k = 1 ∧ lt T k = [103, 117, 101, 115, 116]) → ¬ (kd T k = 1 ∧ lt T k = [119, 101, 97, 114, 115]) → ¬ (kd T k = 1 ∧ lt T k = [98, 108, 105, 110, 100]) → ¬ (kd T k = 1 ∧ lt T k = [116, 111]) → ¬ (kd T k = 1 ∧ lt T k = [114, 117, 108, 101]) → ¬ (kd T k = 1 ∧ lt T k = [102, 97, 99, 116]) → ¬ (kd T k = 1 ∧ lt T k = [115, 108, 105, 112]) → ¬ (kd T k = 1 ∧ lt T k = [115, 117, 109]) → ¬ (kd T k = 1 ∧ lt T k = [116, 111, 112]) → ¬ (kd T k = 1 ∧ lt T k = [108, 111, 119]) → ¬ (kd T k = 1 ∧ lt T k = [107, 105, 110, 100, 115]) → wq (f_X12_isOwnHere_147 0 x) (fun r => (r.1 = true ↔ isOw T k) ∧ mA T k r.2 ∧ fr mD σ r.2) := by
    intro x hA hf hq3 hq4 hq5 hq6 hq7 hq8 hq9 hq10 hq11 hq12 hq13 hq14
    unfold f_X12_isOwnHere_147
    rw [if_pos rfl]
    rw [wq_bind]
    refine wq_mono (m_isHere hT hA.1 (mw15 (mW_m hw hf))) ?_
    rintro ⟨c, y⟩ ⟨hc, hB, hg⟩
    have hB : mA T k y := hB
    replace hf : fr mD σ y := fr_tr hf hg
    replace hA := hB
    dsimp only at hc ⊢
    by_cases hq15 : kd T k = 1 ∧ lt T k = [99, 111, 117, 110, 116]
    · rw [hc, decide_eq_true hq15, if_pos rfl]
      exact y218 y hA hf ⟨hq15.1, by rw [hq15.2]; decide⟩
    rw [hc, decide_eq_false hq15, if_neg (by decide)]
    clear hc hB hg
    rw [wq_bind]
    refine wq_mono (m_isHere hT hA.1 (mw16 (mW_m hw hf))) ?_
    rintro ⟨c, y⟩ ⟨hc, hB, hg⟩
    have hB : mA T k y := hB
    replace hf : fr mD σ y := fr_tr hf hg
    replace hA := hB
    dsimp only at hc ⊢
    by_cases hq16 : kd T k = 1 ∧ lt T k = [110, 117, 109, 98, 101, 114]
    · rw [hc, decide_eq_true hq16, if_pos rfl]
      exact y218 y hA hf ⟨hq16.1, by rw [hq16.2]; decide⟩
    rw [hc, decide_eq_false hq16, if_neg (by decide)]
    clear hc hB hg
    rw [wq_bind]
    refine wq_mono (m_isHere hT hA.1 (mw17 (mW_m hw hf))) ?_
    rintro ⟨c, y⟩ ⟨hc, hB, hg⟩
    have hB : mA T k y := hB
    replace hf : fr mD σ y := fr_tr hf hg
    replace hA := hB
    dsimp only at hc ⊢
    by_cases hq17 : kd T k = 1 ∧ lt T k = [109, 97, 114, 107]
    · rw [hc, decide_eq_true hq17, if_pos rfl]
      exact y218 y hA hf ⟨hq17.1, by rw [hq17.2]; decide⟩
    rw [hc, decide_eq_false hq17, if_neg (by decide)]
    clear hc hB hg
    rw [wq_bind]
    refine wq_mono (m_isHere hT hA.1 (mw18 (mW_m hw hf))) ?_
    rintro ⟨c, y⟩ ⟨hc, hB, hg⟩
    have hB : mA T k y := hB
    replace hf : fr mD σ y := fr_tr hf hg
    replace hA := hB
    dsimp only at hc ⊢
    by_cases hq18 : kd T k = 1 ∧ lt T k = [114, 111, 119, 115]
    · rw [hc, decide_eq_true hq18, if_pos rfl]
      exact y218 y hA hf ⟨hq18.1, by rw [hq18.2]; decide⟩
    rw [hc, decide_eq_false hq18, if_neg (by decide)]
    clear hc hB hg
    rw [wq_bind]
    refine wq_mono (m_isHere hT hA.1 (mw19 (mW_m hw hf))) ?_
    rintro ⟨c, y⟩ ⟨hc, hB, hg⟩
    have hB : mA T k y := hB
    replace hf : fr mD σ y := fr_tr hf hg
    replace hA := hB
    dsimp only at hc ⊢
    by_cases hq19 : kd T k = 1 ∧ lt T k = [107, 110, 111, 119, 115]
    · rw [hc, decide_eq_true hq19, if_pos rfl]
      exact y218 y hA hf ⟨hq19.1, by rw [hq19.2]; decide⟩
    rw [hc, decide_eq_false hq19, if_neg (by decide)]
    clear hc hB hg
    rw [wq_bind]
    refine wq_mono (m_isHere hT hA.1 (mw20 (mW_m hw hf))) ?_
    rintro ⟨c, y⟩ ⟨hc, hB, hg⟩
    have hB : mA T k y := hB
    replace hf : fr mD σ y := fr_tr hf hg
    replace hA := hB
    dsimp only at hc ⊢
    by_cases hq20 : kd T k = 1 ∧ lt T k = [114, 111, 117, 110, 100]
    · rw [hc, decide_eq_true hq20, if_pos rfl]
      exact y218 y hA hf ⟨hq20.1, by rw [hq20.2]; decide⟩
    rw [hc, decide_eq_false hq20, if_neg (by decide)]
    clear hc hB hg
    exact n223 y hA hf hq3 hq4 hq5 hq6 hq7 hq8 hq9 hq10 hq11 hq12 hq13 hq14 hq15 hq16 hq17 hq18 hq19 hq20
  have n71 : ∀ (x : fhM), mA T k x → fr mD σ x → ¬ (kd T k = 1 ∧ lt T k = [109, 97, 114, 107, 115]) → ¬ (kd T k = 1 ∧ lt T k = [103, 117, 101, 115, 116]) → ¬ (kd T k = 1 ∧ lt T k = [119, 101, 97, 114, 115]) → ¬ (kd T k = 1 ∧ lt T k = [98, 108, 105, 110, 100]) → ¬ (kd T k = 1 ∧ lt T k = [116, 111]) → ¬ (kd T k = 1 ∧ lt T k = [114, 117, 108, 101]) → wq (f_X12_isOwnHere_71 0 x) (fun r => (r.1 = true ↔ isOw T k) ∧ mA T k r.2 ∧ fr mD σ r.2) := by
    intro x hA hf hq3 hq4 hq5 hq6 hq7 hq8
    unfold f_X12_isOwnHere_71
    rw [if_pos rfl]
    rw [wq_bind]
    refine wq_mono (m_isHere hT hA.1 (mw9 (mW_m hw hf))) ?_
    rintro ⟨c, y⟩ ⟨hc, hB, hg⟩
    have hB : mA T k y := hB
    replace hf : fr mD σ y := fr_tr hf hg
    replace hA := hB
    dsimp only at hc ⊢
    by_cases hq9 : kd T k = 1 ∧ lt T k = [102, 97, 99, 116]
    · rw [hc, decide_eq_true hq9, if_pos rfl]
      exact y142 y hA hf ⟨hq9.1, by rw [hq9.2]; decide⟩
    rw [hc, decide_eq_false hq9, if_neg (by decide)]
    clear hc hB hg
    rw [wq_bind]
    refine wq_mono (m_isHere hT hA.1 (mw10 (mW_m hw hf))) ?_
    rintro ⟨c, y⟩ ⟨hc, hB, hg⟩
    have hB : mA T k y := hB
    replace hf : fr mD σ y := fr_tr hf hg
    replace hA := hB
    dsimp only at hc ⊢
    by_cases hq10 : kd T k = 1 ∧ lt T k = [115, 108, 105, 112]
    · rw [hc, decide_eq_true hq10, if_pos rfl]
      exact y142 y hA hf ⟨hq10.1, by rw [hq10.2]; decide⟩
    rw [hc, decide_eq_false hq10, if_neg (by decide)]
    clear hc hB hg
    rw [wq_bind]
    refine wq_mono (m_isHere hT hA.1 (mw11 (mW_m hw hf))) ?_
    rintro ⟨c, y⟩ ⟨hc, hB, hg⟩
    have hB : mA T k y := hB
    replace hf : fr mD σ y := fr_tr hf hg
    replace hA := hB
    dsimp only at hc ⊢
    by_cases hq11 : kd T k = 1 ∧ lt T k = [115, 117, 109]
    · rw [hc, decide_eq_true hq11, if_pos rfl]
      exact y142 y hA hf ⟨hq11.1, by rw [hq11.2]; decide⟩
    rw [hc, decide_eq_false hq11, if_neg (by decide)]
    clear hc hB hg
    rw [wq_bind]
    refine wq_mono (m_isHere hT hA.1 (mw12 (mW_m hw hf))) ?_
    rintro ⟨c, y⟩ ⟨hc, hB, hg⟩
    have hB : mA T k y := hB
    replace hf : fr mD σ y := fr_tr hf hg
    replace hA := hB
    dsimp only at hc ⊢
    by_cases hq12 : kd T k = 1 ∧ lt T k = [116, 111, 112]
    · rw [hc, decide_eq_true hq12, if_pos rfl]
      exact y142 y hA hf ⟨hq12.1, by rw [hq12.2]; decide⟩
    rw [hc, decide_eq_false hq12, if_neg (by decide)]
    clear hc hB hg
    rw [wq_bind]
    refine wq_mono (m_isHere hT hA.1 (mw13 (mW_m hw hf))) ?_
    rintro ⟨c, y⟩ ⟨hc, hB, hg⟩
    have hB : mA T k y := hB
    replace hf : fr mD σ y := fr_tr hf hg
    replace hA := hB
    dsimp only at hc ⊢
    by_cases hq13 : kd T k = 1 ∧ lt T k = [108, 111, 119]
    · rw [hc, decide_eq_true hq13, if_pos rfl]
      exact y142 y hA hf ⟨hq13.1, by rw [hq13.2]; decide⟩
    rw [hc, decide_eq_false hq13, if_neg (by decide)]
    clear hc hB hg
    rw [wq_bind]
    refine wq_mono (m_isHere hT hA.1 (mw14 (mW_m hw hf))) ?_
    rintro ⟨c, y⟩ ⟨hc, hB, hg⟩
    have hB : mA T k y := hB
    replace hf : fr mD σ y := fr_tr hf hg
    replace hA := hB
    dsimp only at hc ⊢
    by_cases hq14 : kd T k = 1 ∧ lt T k = [107, 105, 110, 100, 115]
    · rw [hc, decide_eq_true hq14, if_pos rfl]
      exact y142 y hA hf ⟨hq14.1, by rw [hq14.2]; decide⟩
    rw [hc, decide_eq_false hq14, if_neg (by decide)]
    clear hc hB hg
    exact n147 y hA hf hq3 hq4 hq5 hq6 hq7 hq8 hq9 hq10 hq11 hq12 hq13 hq14
  unfold f_X12_isOwnHere
  have hf : fr mD σ σ := fr_rf
  have hA := h
  rw [wq_bind]
  refine wq_mono (m_isHere hT hA (mw3 (mW_m hw hf))) ?_
  rintro ⟨c, y⟩ ⟨hc, hB, hg⟩
  have hB : mA T k y := hB
  replace hf : fr mD σ y := fr_tr hf hg
  have hA := hB
  dsimp only at hc ⊢
  by_cases hq3 : kd T k = 1 ∧ lt T k = [109, 97, 114, 107, 115]
  · rw [hc, decide_eq_true hq3, if_pos rfl]
    exact y66 y hA hf ⟨hq3.1, by rw [hq3.2]; decide⟩
  rw [hc, decide_eq_false hq3, if_neg (by decide)]
  clear hc hB hg
  rw [wq_bind]
  refine wq_mono (m_isHere hT hA.1 (mw4 (mW_m hw hf))) ?_
  rintro ⟨c, y⟩ ⟨hc, hB, hg⟩
  have hB : mA T k y := hB
  replace hf : fr mD σ y := fr_tr hf hg
  replace hA := hB
  dsimp only at hc ⊢
  by_cases hq4 : kd T k = 1 ∧ lt T k = [103, 117, 101, 115, 116]
  · rw [hc, decide_eq_true hq4, if_pos rfl]
    exact y66 y hA hf ⟨hq4.1, by rw [hq4.2]; decide⟩
  rw [hc, decide_eq_false hq4, if_neg (by decide)]
  clear hc hB hg
  rw [wq_bind]
  refine wq_mono (m_isHere hT hA.1 (mw5 (mW_m hw hf))) ?_
  rintro ⟨c, y⟩ ⟨hc, hB, hg⟩
  have hB : mA T k y := hB
  replace hf : fr mD σ y := fr_tr hf hg
  replace hA := hB
  dsimp only at hc ⊢
  by_cases hq5 : kd T k = 1 ∧ lt T k = [119, 101, 97, 114, 115]
  · rw [hc, decide_eq_true hq5, if_pos rfl]
    exact y66 y hA hf ⟨hq5.1, by rw [hq5.2]; decide⟩
  rw [hc, decide_eq_false hq5, if_neg (by decide)]
  clear hc hB hg
  rw [wq_bind]
  refine wq_mono (m_isHere hT hA.1 (mw6 (mW_m hw hf))) ?_
  rintro ⟨c, y⟩ ⟨hc, hB, hg⟩
  have hB : mA T k y := hB
  replace hf : fr mD σ y := fr_tr hf hg
  replace hA := hB
  dsimp only at hc ⊢
  by_cases hq6 : kd T k = 1 ∧ lt T k = [98, 108, 105, 110, 100]
  · rw [hc, decide_eq_true hq6, if_pos rfl]
    exact y66 y hA hf ⟨hq6.1, by rw [hq6.2]; decide⟩
  rw [hc, decide_eq_false hq6, if_neg (by decide)]
  clear hc hB hg
  rw [wq_bind]
  refine wq_mono (m_isHere hT hA.1 (mw7 (mW_m hw hf))) ?_
  rintro ⟨c, y⟩ ⟨hc, hB, hg⟩
  have hB : mA T k y := hB
  replace hf : fr mD σ y := fr_tr hf hg
  replace hA := hB
  dsimp only at hc ⊢
  by_cases hq7 : kd T k = 1 ∧ lt T k = [116, 111]
  · rw [hc, decide_eq_true hq7, if_pos rfl]
    exact y66 y hA hf ⟨hq7.1, by rw [hq7.2]; decide⟩
  rw [hc, decide_eq_false hq7, if_neg (by decide)]
  clear hc hB hg
  rw [wq_bind]
  refine wq_mono (m_isHere hT hA.1 (mw8 (mW_m hw hf))) ?_
  rintro ⟨c, y⟩ ⟨hc, hB, hg⟩
  have hB : mA T k y := hB
  replace hf : fr mD σ y := fr_tr hf hg
  replace hA := hB
  dsimp only at hc ⊢
  by_cases hq8 : kd T k = 1 ∧ lt T k = [114, 117, 108, 101]
  · rw [hc, decide_eq_true hq8, if_pos rfl]
    exact y66 y hA hf ⟨hq8.1, by rw [hq8.2]; decide⟩
  rw [hc, decide_eq_false hq8, if_neg (by decide)]
  clear hc hB hg
  exact n71 y hA hf hq3 hq4 hq5 hq6 hq7 hq8
/-- a name's letters as a number, the last letter first -/
def ee : List Nat → Nat
  | [] => 0
  | c :: r => 27 * ee r + (c - 96)
def e27 (l : List Nat) : Nat := ee l.reverse
theorem ee_inj : ∀ {a b : List Nat}, (∀ c ∈ a, tS c = 1) → (∀ c ∈ b, tS c = 1) → ee a = ee b → a = b := by
  intro a
  induction a with
  | nil =>
    intro b _ hb h
    cases b with
    | nil => rfl
    | cons c r =>
      have := tS_let (hb c List.mem_cons_self)
      have h2 : 0 = 27 * ee r + (c - 96) := h
      omega
  | cons d q ih =>
    intro b ha hb h
    have hd := tS_let (ha d List.mem_cons_self)
    cases b with
    | nil =>
      have h2 : 27 * ee q + (d - 96) = 0 := h
      omega
    | cons c r =>
      have hc := tS_let (hb c List.mem_cons_self)
      have h2 : 27 * ee q + (d - 96) = 27 * ee r + (c - 96) := h
      have e1 : d = c := by omega
      have e2 : ee q = ee r := by omega
      rw [e1, ih (fun x hx => ha x (List.mem_cons_of_mem _ hx)) (fun x hx => hb x (List.mem_cons_of_mem _ hx)) e2]
theorem e27_inj {a b : List Nat} (ha : ∀ c ∈ a, tS c = 1) (hb : ∀ c ∈ b, tS c = 1) (h : e27 a = e27 b) : a = b := by
  have := ee_inj (fun c hc => ha c (List.mem_reverse.mp hc)) (fun c hc => hb c (List.mem_reverse.mp hc)) h
  exact List.reverse_inj.mp this
theorem ee_lt {l : List Nat} (h : ∀ c ∈ l, tS c = 1) : ee l < 27 ^ l.length := by
  induction l with
  | nil => show 0 < 1; decide
  | cons c r ih =>
    have hc := tS_let (h c List.mem_cons_self)
    have h1 := ih (fun x hx => h x (List.mem_cons_of_mem _ hx))
    show 27 * ee r + (c - 96) < 27 ^ (r.length + 1)
    rw [Nat.pow_succ]
    omega
theorem e27_lt {l : List Nat} (h : ∀ c ∈ l, tS c = 1) (hl : l.length ≤ 6) : e27 l < 2 ^ 31 := by
  have h1 := ee_lt (l := l.reverse) (fun c hc => h c (List.mem_reverse.mp hc))
  rw [List.length_reverse] at h1
  have h2 : (27 : Nat) ^ l.length ≤ 27 ^ 6 := Nat.pow_le_pow_right (by decide) hl
  have h3 : (27 : Nat) ^ 6 < 2 ^ 31 := by decide
  unfold e27
  omega
theorem e27_s (l : List Nat) (c : Nat) : e27 (l ++ [c]) = 27 * e27 l + (c - 96) := by
  unfold e27
  rw [List.reverse_append]
  rfl
/-- the first i bytes from f on -/
def bs (T : tT) (f i : Nat) : List Nat := (List.range i).map (fun j => T.1 (f + j))
theorem bs_s (T : tT) (f i : Nat) : bs T f (i + 1) = bs T f i ++ [T.1 (f + i)] := by
  unfold bs
  rw [List.range_succ, List.map_append]
  rfl
theorem bs_len (T : tT) (f i : Nat) : (bs T f i).length = i := by unfold bs; rw [List.length_map, List.length_range]
theorem lt_bs (T : tT) (k : Nat) : lt T k = bs T (fm T k) (to T k - fm T k) := rfl
theorem bs_let {T : tT} {f i : Nat} (h : ∀ j, j < i → tS (T.1 (f + j)) = 1) : ∀ c ∈ bs T f i, tS c = 1 := by
  intro c hc
  obtain ⟨j, hj, e⟩ := List.mem_map.mp hc
  rw [← e]
  exact h j (List.mem_range.mp hj)
theorem lt_let {T : tT} {k : Nat} (h : kd T k = 1) : ∀ c ∈ lt T k, tS c = 1 := by
  have h0 : kd T k ≠ 0 := by omega
  have h2 := kd_13 (T := T) (k := k) (Or.inl h)
  refine bs_let (fun j hj => ?_)
  rw [lt_sort h0 (by omega) (by omega) (by omega), ← h2, h]
theorem l27 {v c : Nat} (hc : tS c = 1) (hb : c < 256) : (((27 : Int64) * lN v + Int32.toInt64 (nI c)) - (97 : Int64)) + (1 : Int64) = lN (27 * v + (c - 96)) := by
  have := tS_let hc
  rw [show (27 : Int64) = lN 27 from rfl, lN_mul, nI_l (by omega), lN_add, show (97 : Int64) = lN 97 from rfl, lN_sub (by omega), lN_1, show 27 * v + c - 97 + 1 = 27 * v + (c - 96) by omega]
def aF (T : tT) (k : Nat) : Nat × Nat := if kd T k ≠ 1 ∨ lt T k ∈ oww then (1, fm T k) else if 6 < to T k - fm T k then (1, fm T k + 6) else (0, 0)
theorem m_name {T : tT} (hT : tOK T) {k : Nat} {σ : fhM} (h : mP T k σ) (hw : mW σ) : wq (f_X12_name σ) (fun r => ((aF T k).1 = 0 → mP T (k + 1) r.2 ∧ r.1 = lN (e27 (lt T k)) ∧ r.2.1 0 37 = nI (fm T k)) ∧ ((aF T k).1 ≠ 0 → mF (aF T k) r.2 ∧ r.1 = 0) ∧ fr mD σ r.2) := by
  unfold f_X12_name
  rw [if_pos h.2.2.1, wq_bind]
  refine wq_mono (m_look hT h) ?_
  rintro ⟨c, σ1⟩ ⟨hc, hA, hf⟩
  have hc : c = mc T k := hc
  have hA : mA T k σ1 := hA
  have hf : fr mD σ σ1 := hf
  dsimp only
  have hT2 := hT.1
  rw [hc]
  unfold mc
  have hno : ∀ x, mA T k x → fr mD σ x → (kd T k ≠ 1 ∨ lt T k ∈ oww) → wq (f_X12_name_37 x) (fun r => ((aF T k).1 = 0 → mP T (k + 1) r.2 ∧ r.1 = lN (e27 (lt T k)) ∧ r.2.1 0 37 = nI (fm T k)) ∧ ((aF T k).1 ≠ 0 → mF (aF T k) r.2 ∧ r.1 = 0) ∧ fr mD σ r.2) := by
    intro x hA hf q
    unfold f_X12_name_37
    rw [wq_let, wq_some, hA.2]
    have e : aF T k = (1, fm T k) := by unfold aF; rw [if_pos q]
    rw [e]
    have := m_fail (q := (1, fm T k)) hA.1.2.2.1
    exact ⟨fun q => (by cases q), fun _ => ⟨this.1, rfl⟩, fr_tr hf this.2⟩
  by_cases h0 : kd T k = 0
  · rw [if_pos h0, m_isLetterN, if_neg (by decide)]
    exact hno _ hA hf (Or.inl (by omega))
  rw [if_neg h0, m_isLetter (hT.2 _)]
  by_cases hs : tS (T.1 (fm T k)) = 1
  · rw [decide_eq_true hs, if_pos rfl, hA.2]
    by_cases hn : nI (fm T k) = σ1.1 0 4
    · rw [if_pos hn]
      refine hno _ hA hf (Or.inl (fun q => ?_))
      have hnr := kd_near (T := T) (k := k) (Or.inl q)
      have hfl := fm_le T k
      have hge := fm_ge T k
      have hle := ts_le T k
      cases he : (ts T k).2 with
      | true =>
        have e1 := hA.1.2.2.2.2.1 he
        rw [e1, nI_eq (by omega) (by omega)] at hn
        exact hnr ⟨he, hn⟩
      | false => exact hA.1.2.2.2.2.2.1 he (fm T k) hge (by omega) hn.symm
    · rw [if_neg hn, wq_bind]
      have hk1 : kd T k = 1 := by
        have e := (kd_is h0).1
        by_cases q : tS (T.1 (fm T k)) ≠ 3 ∧ (ts T k).2 = true ∧ fm T k = (ts T k).1
        · exact absurd (by rw [hA.1.2.2.2.2.1 q.2.1, q.2.2]) hn
        · rw [if_neg q] at e
          omega
      refine wq_mono (m_own hT hA.1 (mW_m hw hf)) ?_
      rintro ⟨b, σ2⟩ ⟨hb, hB, hg⟩
      have hB : mA T k σ2 := hB
      have hg : fr mD σ σ2 := fr_tr hf hg
      dsimp only at hb ⊢
      by_cases ho : isOw T k
      · rw [if_pos (hb.mpr ho)]
        exact hno _ hB hg (Or.inr ho.2)
      rw [if_neg (fun q => ho (hb.mp q)), hB.2]
      have hno2 : lt T k ∉ oww := fun q => ho ⟨hk1, q⟩
      have hfl := kd_pos h0
      have htl := to_le T k
      have hgt := to_gt h0
      have hlet : ∀ j, fm T k ≤ j → j < to T k → tS (T.1 j) = 1 := fun j h1 h2 => (lt_sort h0 (by omega) h1 h2).trans hs
      refine wq_for (R := fun i x => x.1 = lN (e27 (bs T (fm T k) (i - fm T k))) ∧ i ≤ fm T k + 6 ∧ mP T k (fhI x.2 0 2 (nI (fm T k))) ∧ x.2.1 0 2 = nI i ∧ x.2.1 0 37 = nI (fm T k) ∧ fr mD σ x.2) (fm T k) (to T k) (by omega) ?_ ?_ ⟨by rw [Nat.sub_self]; rfl, by omega, ?_, ?_, ?_, fr_I hg ⟨rfl, by omega⟩⟩
      · rintro i ⟨acc, x⟩ h1 h2 ⟨e1, e2, e3, e4, e6, e5⟩
        dsimp only at e1 e2 e3 e4 e5 e6 ⊢
        unfold f_X12_name_58
        have hsi := hlet i h1 h2
        have hen : x.1 0 3 = nI T.2 := by have := e3.2.1; rwa [fhI_r, if_neg (by omega)] at this
        have hby : x.1 1 i = nI (T.1 i) := by have := mP_b e3 (i := i) (by omega); rwa [fhI_r, if_neg (by omega)] at this
        have hbad : x.1 0 5 = 0 := by have := e3.2.2.1; rwa [fhI_r, if_neg (by omega)] at this
        rw [hen, e4, if_neg (nI_ge (by omega) (by omega)), if_pos (ph_in1 (by omega) (by omega)), ph_ix (by omega), hby, m_isLetter (hT.2 _), decide_eq_true hsi, if_pos rfl, e6, pk_sub h1, show (6 : Int32) = nI 6 from rfl]
        by_cases h4 : i - fm T k = 6
        · rw [if_pos (by rw [h4]), wq_let, wq_some, fhK_r]
          have e : aF T k = (1, fm T k + 6) := by unfold aF; rw [if_neg (by rintro (q | q); exact q hk1; exact hno2 q), if_pos (by omega)]
          rw [e, show i = fm T k + 6 by omega]
          have := m_fail (q := (1, fm T k + 6)) hbad
          exact ⟨fun q => (by cases q), fun _ => ⟨this.1, rfl⟩, fr_tr e5 this.2⟩
        · rw [if_neg (fun q => h4 ((nI_eq (by omega) (by decide)).mp q)), if_pos (ph_in1 (by omega) (by omega)), wq_let, wq_some, fhK_l, e1, l27 hsi (hT.2 i), nI_1]
          refine ⟨?_, by omega, ?_, by rw [fhI_r, if_pos ⟨rfl, rfl⟩], by rw [fhI_r, if_neg (by omega)]; exact e6, fr_I e5 ⟨rfl, by omega⟩⟩
          · rw [show i + 1 - fm T k = (i - fm T k) + 1 by omega, bs_s, e27_s, show fm T k + (i - fm T k) = i by omega]
          · refine mP_fr e3 (fun q hq => ?_) ?_ ?_ ?_ ?_ ?_
            · simp only [fhI_r]; rw [if_neg (by omega), if_neg (by omega), if_neg (by omega)]
            · simp only [fhI_r]; rfl
            · simp only [fhI_r]; rfl
            · simp only [fhI_r]; rfl
            · simp only [fhI_r]; rfl
            · simp only [fhI_r]; rfl
      · rintro ⟨acc, x⟩ ⟨e1, e2, e3, e4, e6, e5⟩
        dsimp only at e1 e2 e3 e4 e5 e6 ⊢
        have hen : x.1 0 3 = nI T.2 := by have := e3.2.1; rwa [fhI_r, if_neg (by omega)] at this
        have fin : wq (Option.map Sum.inr (f_X12_name_145 acc x)) (fhK (fun _ : Int64 × fhM => False) (fun r => ((aF T k).1 = 0 → mP T (k + 1) r.2 ∧ r.1 = lN (e27 (lt T k)) ∧ r.2.1 0 37 = nI (fm T k)) ∧ ((aF T k).1 ≠ 0 → mF (aF T k) r.2 ∧ r.1 = 0) ∧ fr mD σ r.2)) := by
          rw [wq_map]
          simp only [fhK_r]
          unfold f_X12_name_145
          rw [wq_some, e4]
          have hmp : mP T (k + 1) (fhI x 0 4 (nI (to T k))) := by
            refine mP_fr (mP_next hT e3 (Or.inl hk1)) (fun q hq => ?_) ?_ ?_ ?_ ?_ ?_
            · simp only [fhI_r]; rw [if_neg (by omega), if_neg (by omega), if_neg (by omega), if_neg (by omega)]
            · simp only [fhI_r]; exact e4
            · simp only [fhI_r]; rfl
            · simp only [fhI_r]; rfl
            · simp only [fhI_r]; rfl
            · simp only [fhI_r]; rfl
          have e : aF T k = (0, 0) := by unfold aF; rw [if_neg (by rintro (q | q); exact q hk1; exact hno2 q), if_neg (by omega)]
          rw [e]
          exact ⟨fun _ => ⟨hmp, e1, by rw [fhI_r, if_neg (by omega)]; exact e6⟩, fun q => absurd rfl q, fr_I e5 ⟨rfl, by omega⟩⟩
        unfold f_X12_name_58
        rw [hen, e4]
        by_cases he : T.2 ≤ to T k
        · rw [if_pos (nI_le he (by omega))]
          exact fin
        · have hse := to_sort h0 (by omega) (show to T k < T.2 by omega)
          have hby : x.1 1 (to T k) = nI (T.1 (to T k)) := by have := mP_b e3 (i := to T k) (by omega); rwa [fhI_r, if_neg (by omega)] at this
          rw [if_neg (nI_ge (by omega) (by omega)), if_pos (ph_in1 (by omega) (by omega)), ph_ix (by omega), hby, m_isLetter (hT.2 _), decide_eq_false (by omega), if_neg (by decide)]
          exact fin
      · refine mP_fr hB.1 (fun q hq => ?_) ?_ ?_ ?_ ?_ ?_
        · simp only [fhI_r]; rw [if_neg (by omega), if_neg (by omega)]
        · simp only [fhI_r]; exact hB.2.symm
        · simp only [fhI_r]; rfl
        · simp only [fhI_r]; rfl
        · simp only [fhI_r]; rfl
        · simp only [fhI_r]; rfl
      · simp only [fhI_r]; exact hB.2
      · simp only [fhI_r]; rfl
  · rw [decide_eq_false hs, if_neg (by decide)]
    refine hno _ hA hf (Or.inl (fun q => ?_))
    have := kd_13 (T := T) (k := k) (Or.inl q)
    omega
theorem m_nameN {σ : fhM} (h : σ.1 0 5 ≠ 0) : f_X12_name σ = some (0, σ) := by
  unfold f_X12_name
  rw [if_neg h]
