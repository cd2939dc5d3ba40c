/-! THE CLASS'S PIECES, cut at once; its reader -/
def val (T : tT) (k : Nat) : Nat := if tS (T.1 (fm T k)) = 1 then (if to T k - fm T k ≤ 6 then p5 (lt T k) else 0) else if tS (T.1 (fm T k)) = 2 then nmv T (fm T k) (min (to T k - fm T k) 4) else T.1 (fm T k)
def wno (T : tT) (k : Nat) : Nat := if tS (T.1 (fm T k)) = 1 then ow (lt T k) else 99
/-- the pieces ahead of m -/
def cQ (T : tT) (m : Nat) (σ : fhM) : Prop := ∀ j, j < m → σ.1 5 (5 * j) = nI (fm T j) ∧ σ.1 5 (5 * j + 1) = nI (to T j) ∧ σ.1 5 (5 * j + 2) = nI (kd T j) ∧ σ.1 5 (5 * j + 3) = nI (val T j) ∧ σ.1 5 (5 * j + 4) = nI (wno T j)
def cD (t j : Nat) : Prop := t = 5 ∨ (t = 3 ∧ 1 ≤ j ∧ j ≤ 10)
theorem fcG_neg {σ : fhM} {t : Nat} {k : Int32} (h : k < 0) : fcG σ t k = 0 := by
  unfold fcG fhin
  rw [decide_eq_true h]
  rfl
theorem cut_flag {T : tT} {σ : fhM} {j : Nat} (hj : j < 1600) (hq : cQ T j σ) (h31 : σ.1 3 1 = nI j) {at' s : Nat} (hs : s = 1 ∨ s = 2 ∨ s = 3) (hat : at' < 1600) (hto : ∀ i, to T i ≤ 1600) (hkd : ∀ i, kd T i ≤ 4) {v1 : Nat} {v4 : Int32} :
    f_X8_cutPiece_47 v1 (nI at') (nI s) v4 σ = f_X8_cutPiece_118 v1 (nI at') (nI s) v4 (nI (5 * j)) (if 0 < j ∧ to T (j - 1) = at' ∧ kd T (j - 1) ≠ 3 ∧ s ≠ 3 then 1 else 0) σ := by
  have e5 : (5 : Int32) * σ.1 3 1 = nI (5 * j) := by rw [h31, show (5 : Int32) = nI 5 from rfl, pk_mul]
  have h93 : f_X8_cutPiece_93 v1 (nI at') (nI s) v4 (nI (5 * j)) σ = f_X8_cutPiece_118 v1 (nI at') (nI s) v4 (nI (5 * j)) 0 σ := by
    unfold f_X8_cutPiece_93 f_X8_cutPiece_94 f_X8_cutPiece_117
    rw [if_pos rfl]
    split <;> rfl
  have h94 : f_X8_cutPiece_94 v1 (nI at') (nI s) v4 (nI (5 * j)) 1 σ = f_X8_cutPiece_118 v1 (nI at') (nI s) v4 (nI (5 * j)) (if 0 < j ∧ s ≠ 3 then 1 else 0) σ := by
    unfold f_X8_cutPiece_94 f_X8_cutPiece_117
    have n1 : (nI j ≤ 0) ↔ j ≤ 0 := nI_leI (b := 0) (by omega) (by decide)
    have n2 : (nI s = (3 : Int32)) ↔ s = 3 := nI_eq (b := 3) (by omega) (by decide)
    have n3 : ((1 : Int32) = 0) ↔ False := by decide
    simp only [h31, n1, n2, n3, if_false]
    by_cases q : j ≤ 0
    · rw [if_pos q, if_neg (by omega)]
    · rw [if_neg q]
      by_cases q2 : s = 3
      · rw [if_pos q2, if_neg (by omega)]
      · rw [if_neg q2, if_pos (by omega)]
  unfold f_X8_cutPiece_47
  rw [e5, h93, h94]
  cases j with
  | zero =>
    rw [if_neg (show ¬ (0 < 0 ∧ to T (0 - 1) = at' ∧ kd T (0 - 1) ≠ 3 ∧ s ≠ 3) by omega)]
    split
    · split <;> rfl
    · rfl
  | succ i =>
    obtain ⟨a1, a2, a3, a4, a5⟩ := hq i (by omega)
    have x1 : (nI (5 * (i + 1)) - (5 : Int32)) + (1 : Int32) = nI (5 * i + 1) := by
      rw [show (5 : Int32) = nI 5 from rfl, pk_sub (by omega), nI_1, show 5 * (i + 1) - 5 + 1 = 5 * i + 1 by omega]
    have x2 : (nI (5 * (i + 1)) - (5 : Int32)) + (2 : Int32) = nI (5 * i + 2) := by
      rw [show (5 : Int32) = nI 5 from rfl, pk_sub (by omega), show (2 : Int32) = nI 2 from rfl, nI_add, show 5 * (i + 1) - 5 + 2 = 5 * i + 2 by omega]
    have b1 := hto i
    have b2 := hkd i
    have n1 : (nI (to T i) = nI at') ↔ to T i = at' := nI_eq (by omega) (by omega)
    have n2 : (nI (kd T i) = (3 : Int32)) ↔ kd T i = 3 := nI_eq (b := 3) (by omega) (by decide)
    rw [x1, x2, cg4 (by omega), cg4 (by omega), a2, a3, show i + 1 - 1 = i from rfl]
    simp only [n1, n2]
    by_cases q1 : to T i = at'
    · rw [if_pos q1]
      by_cases q2 : kd T i = 3
      · rw [if_pos q2, if_neg (by omega)]
      · rw [if_neg q2]
        congr 1
        by_cases q3 : s = 3
        · rw [if_neg (by omega), if_neg (by omega)]
        · rw [if_pos (by omega), if_pos (by omega)]
    · rw [if_neg q1, if_neg (by omega)]
theorem kd_le4 (T : tT) (k : Nat) : kd T k ≤ 4 := by
  unfold kd tkd
  split
  · omega
  · split
    · omega
    · rcases tS_123 (T.1 (skp T (ts T k).1)) with e | e | e <;> omega
/-- the flag and the kind of a piece -/
theorem kd_flag {T : tT} {j : Nat} (h : kd T j ≠ 0) : kd T j = if 0 < j ∧ to T (j - 1) = fm T j ∧ kd T (j - 1) ≠ 3 ∧ tS (T.1 (fm T j)) ≠ 3 then 4 else tS (T.1 (fm T j)) := by
  rw [(kd_is h).1]
  cases j with
  | zero =>
    rw [if_neg (show ¬ (0 < 0 ∧ _) by omega), if_neg]
    rintro ⟨_, q, _⟩
    cases q
  | succ i =>
    rw [show i + 1 - 1 = i from rfl, ts_s]
    dsimp only
    by_cases q1 : kd T i = 3
    · rw [if_neg (by rintro ⟨_, q, _⟩; rw [q1] at q; cases q), if_neg (by omega)]
    · have q2 : (!(kd T i == 3)) = true := by
        simp only [Bool.not_eq_true', beq_eq_false_iff_ne, ne_eq]
        exact q1
      rw [q2]
      by_cases q3 : tS (T.1 (fm T (i + 1))) ≠ 3 ∧ to T i = fm T (i + 1)
      · rw [if_pos ⟨q3.1, rfl, q3.2.symm⟩, if_pos ⟨by omega, q3.2, q1, q3.1⟩]
      · rw [if_neg (by rintro ⟨a, -, b⟩; exact q3 ⟨a, b.symm⟩), if_neg (by rintro ⟨-, b, -, a⟩; exact q3 ⟨a, b⟩)]
def cD1 (t j : Nat) : Prop := t = 5 ∨ (t = 3 ∧ j = 1)
theorem c_cut {T : tT} (hT : tOK T) {σ : fhM} (hx : cX T σ) {j : Nat} (hk : kd T j ≠ 0) (hq : cQ T j σ) (h31 : σ.1 3 1 = nI j) (h33 : σ.1 3 3 = nI T.2) :
    wq (f_X8_cutPiece 1 (nI (fm T j)) σ) (fun r => r.1 = nI (to T j) ∧ cQ T (j + 1) r.2 ∧ r.2.1 3 1 = nI (j + 1) ∧ r.2.1 3 3 = nI T.2 ∧ cX T r.2 ∧ fr cD1 σ r.2) := by
  have hT2 := hT.1
  have hfl := kd_pos hk
  have htl := to_le T j
  have hgt := to_gt hk
  have hjl := kd_num hk
  have hs3 := tS_123 (T.1 (fm T j))
  -- where the piece ends
  have hcut : wq (f_X8_cutPiece_47 1 (nI (fm T j)) (nI (tS (T.1 (fm T j)))) (nI (to T j)) σ) (fun r => r.1 = nI (to T j) ∧ cQ T (j + 1) r.2 ∧ r.2.1 3 1 = nI (j + 1) ∧ r.2.1 3 3 = nI T.2 ∧ cX T r.2 ∧ fr cD1 σ r.2) := by
    rw [cut_flag (by omega) hq h31 hs3 (by omega) (fun i => by have := to_le T i; omega) (kd_le4 T)]
    have hkf := kd_flag hk
    generalize hfl2 : (if 0 < j ∧ to T (j - 1) = fm T j ∧ kd T (j - 1) ≠ 3 ∧ tS (T.1 (fm T j)) ≠ 3 then (1 : Int32) else 0) = flag
    have hkind : (if flag = 0 then nI (tS (T.1 (fm T j))) else (4 : Int32)) = nI (kd T j) := by
      rw [hkf, ← hfl2]
      by_cases q : 0 < j ∧ to T (j - 1) = fm T j ∧ kd T (j - 1) ≠ 3 ∧ tS (T.1 (fm T j)) ≠ 3
      · rw [if_pos q, if_pos q, if_neg (by decide)]; rfl
      · rw [if_neg q, if_neg q, if_pos rfl]
    -- the five cells
    have put : ∀ (v w : Int32), v = nI (val T j) → w = nI (wno T j) → wq (some (nI (to T j), fhI (fhI (fhI (fhI (fhI (fhI σ 5 (5 * j) (nI (fm T j))) 5 (5 * j + 1) (nI (to T j))) 5 (5 * j + 2) (nI (kd T j))) 5 (5 * j + 3) v) 5 (5 * j + 4) w) 3 1 (nI (j + 1)))) (fun r => r.1 = nI (to T j) ∧ cQ T (j + 1) r.2 ∧ r.2.1 3 1 = nI (j + 1) ∧ r.2.1 3 3 = nI T.2 ∧ cX T r.2 ∧ fr cD1 σ r.2) := by
      intro v w hv hw
      rw [wq_some]
      refine ⟨rfl, ?_, ?_, ?_, ?_, ?_⟩
      · intro i hi
        rcases Nat.lt_succ_iff_lt_or_eq.mp hi with q | q
        · obtain ⟨a1, a2, a3, a4, a5⟩ := hq i q
          simp only [fhI_r]
          refine ⟨?_, ?_, ?_, ?_, ?_⟩
          · rw [if_neg (by omega), if_neg (by omega), if_neg (by omega), if_neg (by omega), if_neg (by omega), if_neg (by omega)]; exact a1
          · rw [if_neg (by omega), if_neg (by omega), if_neg (by omega), if_neg (by omega), if_neg (by omega), if_neg (by omega)]; exact a2
          · rw [if_neg (by omega), if_neg (by omega), if_neg (by omega), if_neg (by omega), if_neg (by omega), if_neg (by omega)]; exact a3
          · rw [if_neg (by omega), if_neg (by omega), if_neg (by omega), if_neg (by omega), if_neg (by omega), if_neg (by omega)]; exact a4
          · rw [if_neg (by omega), if_neg (by omega), if_neg (by omega), if_neg (by omega), if_neg (by omega), if_neg (by omega)]; exact a5
        · subst q
          simp (disch := omega) only [fhI_e, fhI_o, fhI_s]
          exact ⟨trivial, trivial, trivial, hv, hw⟩
      · rw [fhI_r, if_pos ⟨rfl, rfl⟩]
      · simp only [fhI_r]; exact h33
      · intro i hi
        simp only [fhI_r]
        rw [if_neg (by omega), if_neg (by omega), if_neg (by omega), if_neg (by omega), if_neg (by omega), if_neg (by omega)]
        exact hx i hi
      · exact fr_I (fr_I (fr_I (fr_I (fr_I (fr_I fr_rf (Or.inl rfl)) (Or.inl rfl)) (Or.inl rfl)) (Or.inl rfl)) (Or.inl rfl)) (Or.inr ⟨rfl, rfl⟩)
    have a1 : (nI (5 * j) : Int32) + (1 : Int32) = nI (5 * j + 1) := nI_1 _
    have a2 : (nI (5 * j) : Int32) + (2 : Int32) = nI (5 * j + 2) := by rw [show (2 : Int32) = nI 2 from rfl, nI_add]
    have a3 : (nI (5 * j) : Int32) + (3 : Int32) = nI (5 * j + 3) := by rw [show (3 : Int32) = nI 3 from rfl, nI_add]
    have a4 : (nI (5 * j) : Int32) + (4 : Int32) = nI (5 * j + 4) := by rw [show (4 : Int32) = nI 4 from rfl, nI_add]
    have hx2 : cX T (fhI (fhI (fhI σ 5 (5 * j) (nI (fm T j))) 5 (5 * j + 1) (nI (to T j))) 5 (5 * j + 2) (nI (kd T j))) := by
      intro i hi
      simp only [fhI_r]
      rw [if_neg (by omega), if_neg (by omega), if_neg (by omega)]
      exact hx i hi
    unfold f_X8_cutPiece_118 f_X8_cutPiece_136 f_X8_cutPiece_179 f_X8_cutPiece_220 f_X8_cutPiece_246
    rw [hkind, a1, a2, a3, a4, cp4 (by omega), cp4 (by omega), cp4 (by omega)]
    rcases hs3 with e | e | e
    · rw [e, show (nI 1 : Int32) = 1 from rfl, if_pos rfl, wq_bind]
      have hl1 : ∀ i, fm T j ≤ i → i < to T j → tS (T.1 i) = 1 := fun i q1 q2 => (lt_sort hk (by omega) q1 q2).trans e
      refine wq_of (c_pack hT hx (by omega) (by omega) hl1) ?_
      generalize hpv : (if to T j - fm T j ≤ 6 then p5 (bs T (fm T j) (to T j - fm T j)) else 0) = pv
      rw [if_pos rfl, cp4 (by omega), if_pos rfl, cp4 (by omega)]
      simp (disch := omega) only [fhI_e, fhI_o, fhI_s]
      rw [h31, nI_1]
      refine put _ _ ?_ ?_
      · unfold val
        rw [if_pos e, lt_bs, hpv]
      · rw [← hpv]
        unfold wno
        rw [if_pos e]
        have hlt : ∀ c ∈ lt T j, tS c = 1 := bs_let (fun i hi => hl1 _ (by omega) (by omega))
        by_cases q : to T j - fm T j ≤ 6
        · rw [if_pos q]
          exact c_wno hlt (by rw [lt_len]; exact q) _
        · rw [if_neg q, ow_long (by rw [lt_len]; omega)]
          exact c_wno0 _
    · have hl1 : ∀ i, fm T j ≤ i → i < to T j → tS (T.1 i) = 2 := fun i q1 q2 => (lt_sort hk (by omega) q1 q2).trans e
      rw [e, show (nI 2 : Int32) = 2 from rfl, if_neg (by decide), if_neg (by decide), if_pos rfl, wq_bind]
      refine wq_of (c_num hT hx2 (by omega) (by omega) hl1) ?_
      rw [cp4 (by omega), if_neg (by decide), cp4 (by omega)]
      simp (disch := omega) only [fhI_e, fhI_o, fhI_s]
      rw [h31, nI_1]
      refine put _ _ ?_ ?_
      · unfold val
        rw [if_neg (by omega), if_pos e]
      · unfold wno
        rw [if_neg (by omega)]
        rfl
    · rw [e, show (nI 3 : Int32) = 3 from rfl, if_neg (by decide), if_neg (by decide), if_neg (by decide), c_get hT hx2 hfl, cp4 (by omega), if_neg (by decide), cp4 (by omega)]
      simp (disch := omega) only [fhI_e, fhI_o, fhI_s]
      rw [h31, nI_1]
      refine put _ _ ?_ ?_
      · unfold val
        rw [if_neg (by omega), if_neg (by omega)]
      · unfold wno
        rw [if_neg (by omega)]
        rfl
  unfold f_X8_cutPiece
  rw [c_get hT hx hfl, c_sort (hT.2 _), nI_1]
  refine wq_for (R := fun i x => x = nI i) (fm T j + 1) (to T j) (by omega) ?_ ?_ rfl
  · rintro i x h1 h2 rfl
    unfold f_X8_cutPiece_14
    have hne : tS (T.1 (fm T j)) ≠ 3 := by
      intro q
      rw [(kd_is hk).2, if_pos q] at h2
      omega
    have hsi := lt_sort hk hne (show fm T j ≤ i by omega) h2
    rw [h33, if_neg (nI_ge (by omega) (by omega)), show (3 : Int32) = nI 3 from rfl, if_neg (fun q => hne ((nI_eq (by omega) (by decide)).mp q)), c_get hT hx (by omega), c_sort (hT.2 _), hsi, if_pos rfl, wq_some, fhK_l, nI_1]
  · rintro x rfl
    have fin := wq_map (β := Int32) (a := f_X8_cutPiece_47 1 (nI (fm T j)) (nI (tS (T.1 (fm T j)))) (nI (to T j)) σ) (P := fhK (fun _ => False) (fun r => r.1 = nI (to T j) ∧ cQ T (j + 1) r.2 ∧ r.2.1 3 1 = nI (j + 1) ∧ r.2.1 3 3 = nI T.2 ∧ cX T r.2 ∧ fr cD1 σ r.2))
    have fin := fin.mpr hcut
    unfold f_X8_cutPiece_14
    rw [h33]
    by_cases he : T.2 ≤ to T j
    · rw [if_pos (nI_le he (by omega))]
      exact fin
    · rw [if_neg (nI_ge (by omega) (by omega)), show (3 : Int32) = nI 3 from rfl]
      by_cases hne : tS (T.1 (fm T j)) = 3
      · rw [if_pos (by rw [hne])]
        exact fin
      · have hse := to_sort hk hne (show to T j < T.2 by omega)
        have b1 := tS_123 (T.1 (to T j))
        rw [if_neg (fun q => hne ((nI_eq (by omega) (by decide)).mp q)), c_get hT hx (by omega), c_sort (hT.2 _), if_neg (fun q => hse ((nI_eq (by omega) (by omega)).mp q))]
        exact fin
/-- the number of pieces -/
def tend (T : tT) (m : Nat) : Prop := m ≤ T.2 ∧ kd T m = 0 ∧ ∀ k, k < m → kd T k ≠ 0
/-- the class has token k at hand, without a fault -/
def cP (T : tT) (m k : Nat) (σ : fhM) : Prop := cQ T m σ ∧ σ.1 3 1 = nI m ∧ σ.1 3 3 = nI T.2 ∧ σ.1 3 9 = 0 ∧ σ.1 3 2 = nI (min (k + 1) m) ∧ σ.1 3 8 = nI (fm T k) ∧ σ.1 3 5 = nI (to T k) ∧ σ.1 3 4 = nI (kd T k) ∧ (k < m → σ.1 3 6 = nI (val T k) ∧ σ.1 3 7 = nI (wno T k))
def cDa (t j : Nat) : Prop := t = 3 ∧ (j = 2 ∨ (4 ≤ j ∧ j ≤ 8))
theorem c_adv0 {T : tT} (hT : tOK T) {m k : Nat} {σ : fhM} (hm : tend T m) (hk : k ≤ m) (hq : cQ T m σ) (h1 : σ.1 3 1 = nI m) (h3 : σ.1 3 3 = nI T.2) (h9 : σ.1 3 9 = 0) (h2 : σ.1 3 2 = nI k) : cP T m k (f_X8_advance σ) ∧ fr cDa σ (f_X8_advance σ) := by
  have hT2 := hT.1
  obtain ⟨hm1, hm2, hm3⟩ := hm
  unfold f_X8_advance
  rw [if_pos h9, h2, h1]
  by_cases hkm : k < m
  · obtain ⟨a1, a2, a3, a4, a5⟩ := hq k hkm
    rw [if_pos (nI_lt hkm (by omega)), show (5 : Int32) = nI 5 from rfl, pk_mul, nI_1, show (2 : Int32) = nI 2 from rfl, show (3 : Int32) = nI 3 from rfl, show (4 : Int32) = nI 4 from rfl, nI_add, nI_add, nI_add, nI_1]
    simp only [cg4 (show 5 * k < 8000 by omega), cg4 (show 5 * k + 1 < 8000 by omega), cg4 (show 5 * k + 2 < 8000 by omega), cg4 (show 5 * k + 3 < 8000 by omega), cg4 (show 5 * k + 4 < 8000 by omega), fhI_r, show ¬ (5 = 3) by decide, false_and, if_false, a1, a2, a3, a4, a5]
    refine ⟨⟨?_, ?_, ?_, ?_, ?_, ?_, ?_, ?_, ?_⟩, ?_⟩
    · intro i hi
      obtain ⟨b1, b2, b3, b4, b5⟩ := hq i hi
      simp only [fhI_r, show ¬ (5 = 3) by decide, false_and, if_false]
      exact ⟨b1, b2, b3, b4, b5⟩
    · simp only [fhI_r]; exact h1
    · simp only [fhI_r]; exact h3
    · simp only [fhI_r]; exact h9
    · simp only [fhI_r]
      rw [if_pos (by decide), show min (k + 1) m = k + 1 by omega]
    · simp only [fhI_r]; rfl
    · simp only [fhI_r]; rfl
    · simp only [fhI_r]; rfl
    · intro _
      simp only [fhI_r]
      exact ⟨rfl, rfl⟩
    · exact fr_I (fr_I (fr_I (fr_I (fr_I (fr_I fr_rf ⟨rfl, by omega⟩) ⟨rfl, by omega⟩) ⟨rfl, by omega⟩) ⟨rfl, by omega⟩) ⟨rfl, by omega⟩) ⟨rfl, by omega⟩
  · have e : k = m := by omega
    subst e
    rw [if_neg (nI_nlt (Nat.le_refl _) (by omega)), h3]
    refine ⟨⟨?_, ?_, ?_, ?_, ?_, ?_, ?_, ?_, ?_⟩, ?_⟩
    · intro i hi
      obtain ⟨b1, b2, b3, b4, b5⟩ := hq i hi
      simp only [fhI_r, show ¬ (5 = 3) by decide, false_and, if_false]
      exact ⟨b1, b2, b3, b4, b5⟩
    · simp only [fhI_r]; exact h1
    · simp only [fhI_r]; exact h3
    · simp only [fhI_r]; exact h9
    · simp only [fhI_r]
      rw [show min (k + 1) k = k by omega]
      exact h2
    · simp only [fhI_r, kd_0.mp hm2]; rfl
    · simp only [fhI_r, to_0 hm2]; rfl
    · simp only [fhI_r, hm2]; rfl
    · intro q; omega
    · exact fr_I (fr_I (fr_I fr_rf ⟨rfl, by omega⟩) ⟨rfl, by omega⟩) ⟨rfl, by omega⟩
theorem c_adv {T : tT} (hT : tOK T) {m k : Nat} {σ : fhM} (hm : tend T m) (hk : k < m) (h : cP T m k σ) : cP T m (k + 1) (f_X8_advance σ) ∧ fr cDa σ (f_X8_advance σ) := by
  obtain ⟨a1, a2, a3, a4, a5, -⟩ := h
  rw [show min (k + 1) m = k + 1 by omega] at a5
  exact c_adv0 hT hm (by omega) a1 a2 a3 a4 a5
theorem c_open {T : tT} (hT : tOK T) {m : Nat} (hm : tend T m) {σ : fhM} (hx : cX T σ) : wq (f_X8_open 1 (nI T.2) σ) (fun r => cP T m 0 r ∧ r.1 3 10 = (-1 : Int32) ∧ cX T r ∧ fr cD σ r) := by
  have hT2 := hT.1
  have hm0 := hm
  obtain ⟨hm1, hm2, hm3⟩ := hm
  unfold f_X8_open
  -- the loop: (place, rounds, memory)
  have hloop := wq_loop (f := fun x : Int32 × Int32 × fhM => f_X8_open_30 1 x.1 x.2.1 x.2.2) (P := fun r => cP T m 0 r ∧ r.1 3 10 = (-1 : Int32) ∧ cX T r ∧ fr cD σ r)
    (Inv := fun (x : Int32 × Int32 × fhM) => ∃ a n j, x.1 = nI a ∧ x.2.1 = nI n ∧ n ≤ a ∧ j ≤ m ∧ (ts T j).1 ≤ a ∧ a ≤ fm T j ∧ cQ T j x.2.2 ∧ x.2.2.1 3 1 = nI j ∧ x.2.2.1 3 3 = nI T.2 ∧ x.2.2.1 3 9 = 0 ∧ x.2.2.1 3 10 = (-1 : Int32) ∧ x.2.2.1 3 2 = 0 ∧ cX T x.2.2 ∧ fr cD σ x.2.2)
    (μ := fun (x : Int32 × Int32 × fhM) => T.2 - x.1.toNatClampNeg)
    (by
      rintro ⟨x1, x2, x⟩ ⟨a, n, j, e1, e2, hna, hj, ha1, ha2, hq, h31, h33, h39, h310, h32, hxx, hf⟩
      dsimp only at e1 e2 hq h31 h33 h39 h310 h32 hxx hf ⊢
      subst e1; subst e2
      have hfl := fm_le T j
      have fin : ¬ j < m → wq (Option.map Sum.inr (f_X8_open_97 x)) (fhK (fun y : Int32 × Int32 × fhM => (∃ a n j, y.1 = nI a ∧ y.2.1 = nI n ∧ n ≤ a ∧ j ≤ m ∧ (ts T j).1 ≤ a ∧ a ≤ fm T j ∧ cQ T j y.2.2 ∧ y.2.2.1 3 1 = nI j ∧ y.2.2.1 3 3 = nI T.2 ∧ y.2.2.1 3 9 = 0 ∧ y.2.2.1 3 10 = (-1 : Int32) ∧ y.2.2.1 3 2 = 0 ∧ cX T y.2.2 ∧ fr cD σ y.2.2) ∧ T.2 - y.1.toNatClampNeg < T.2 - (nI a).toNatClampNeg) (fun r => cP T m 0 r ∧ r.1 3 10 = (-1 : Int32) ∧ cX T r ∧ fr cD σ r)) := by
        intro hjm
        have e : j = m := by omega
        subst e
        rw [wq_map]
        simp only [fhK_r]
        unfold f_X8_open_97
        rw [wq_let, wq_some]
        obtain ⟨b1, b2⟩ := c_adv0 (k := 0) hT hm0 (Nat.zero_le _) hq h31 h33 h39 h32
        refine ⟨b1, ?_, ?_, fr_tr hf (fr_mo b2 (fun t j q => by unfold cD; unfold cDa at q; omega))⟩
        · rw [b2.2 3 10 (by unfold cDa; omega)]; exact h310
        · intro i hi
          rw [b2.2 2 i (by unfold cDa; omega)]
          exact hxx i hi
      unfold f_X8_open_30
      by_cases he : T.2 ≤ a
      · have hjm : ¬ j < m := by
          intro q
          have := kd_pos (hm3 j q)
          omega
        split
        · exact fin hjm
        · rw [h33, if_pos (nI_le he (by omega))]
          exact fin hjm
      · rw [if_neg (show ¬ (1600 : Int32) ≤ nI n from nI_ge (a := n) (b := 1600) (by omega) (by decide)), h33, if_neg (nI_ge (by omega) (by omega)), c_get hT hxx (by omega)]
        by_cases hb : tB (T.1 a) = true
        · have go : wq (f_X8_open_66 1 (nI a) (nI n) x) (fhK (fun y : Int32 × Int32 × fhM => (∃ a n j, y.1 = nI a ∧ y.2.1 = nI n ∧ n ≤ a ∧ j ≤ m ∧ (ts T j).1 ≤ a ∧ a ≤ fm T j ∧ cQ T j y.2.2 ∧ y.2.2.1 3 1 = nI j ∧ y.2.2.1 3 3 = nI T.2 ∧ y.2.2.1 3 9 = 0 ∧ y.2.2.1 3 10 = (-1 : Int32) ∧ y.2.2.1 3 2 = 0 ∧ cX T y.2.2 ∧ fr cD σ y.2.2) ∧ T.2 - y.1.toNatClampNeg < T.2 - (nI a).toNatClampNeg) (fun r => cP T m 0 r ∧ r.1 3 10 = (-1 : Int32) ∧ cX T r ∧ fr cD σ r)) := by
            unfold f_X8_open_66 f_X8_open_71 f_X8_open_90
            rw [if_neg (by decide), wq_some, fhK_l, nI_1, nI_1, nI_clamp (by omega), nI_clamp (by omega)]
            have hlt : a < fm T j := by
              rcases Nat.lt_or_ge a (fm T j) with q | q
              · exact q
              · have e : a = fm T j := by omega
                have := fw_at (p := fun j => tB (T.1 j)) (ts_le T j) (show fm T j < T.2 by omega)
                rw [e] at hb
                rw [show tB (T.1 (fm T j)) = false from this] at hb
                cases hb
            exact ⟨⟨a + 1, n + 1, j, rfl, rfl, by omega, hj, by omega, by omega, hq, h31, h33, h39, h310, h32, hxx, hf⟩, by omega⟩
          rcases (m_blank (hT.2 a)).mpr hb with q | q
          · rw [if_pos q]; exact go
          · rw [if_pos q]
            split
            · exact go
            · exact go
        · have hnb : ¬ (nI (T.1 a) = (10 : Int32) ∨ nI (T.1 a) = (32 : Int32)) := fun q => hb ((m_blank (hT.2 a)).mp q)
          rw [if_neg (fun q => hnb (Or.inl q)), if_neg (fun q => hnb (Or.inr q))]
          have e : a = fm T j := by
            rcases Nat.lt_or_ge a (fm T j) with q | q
            · exact absurd (fw_in (p := fun j => tB (T.1 j)) (ts_le T j) ha1 q) hb
            · omega
          have hjm : j < m := by
            rcases Nat.lt_or_ge j m with q | q
            · exact q
            · have e2 : j = m := by omega
              rw [e2] at e
              have := kd_0.mp hm2
              omega
          have hgt := to_gt (hm3 j hjm)
          have htl := to_le T j
          unfold f_X8_open_71
          rw [if_pos rfl, wq_bind, e]
          refine wq_mono (c_cut hT hxx (hm3 j hjm) hq h31 h33) ?_
          rintro ⟨r, y⟩ ⟨g1, g2, g3, g4, g5, g6⟩
          dsimp only at g1 g2 g3 g4 g5 g6 ⊢
          unfold f_X8_open_90
          rw [wq_some, fhK_l, g1, nI_1, nI_clamp (by omega), nI_clamp (by omega)]
          refine ⟨⟨to T j, n + 1, j + 1, rfl, rfl, by omega, by omega, Nat.le_refl _, fm_s T j, g2, g3, g4, ?_, ?_, ?_, g5, fr_tr hf (fr_mo g6 (fun t j q => by unfold cD; unfold cD1 at q; omega))⟩, by omega⟩
          · rw [g6.2 3 9 (by unfold cD1; omega)]; exact h39
          · rw [g6.2 3 10 (by unfold cD1; omega)]; exact h310
          · rw [g6.2 3 2 (by unfold cD1; omega)]; exact h32)
    (x := ((0 : Int32), (0 : Int32), (fhI (fhI (fhI (fhI (fhI σ 3 3 (nI T.2)) 3 9 (0 : Int32)) 3 10 (-1 : Int32)) 3 1 (0 : Int32)) 3 2 (0 : Int32))))
  refine hloop ⟨0, 0, 0, rfl, rfl, Nat.le_refl _, Nat.zero_le _, Nat.le_refl _, Nat.zero_le _, fun j hj => by omega, ?_, ?_, ?_, ?_, ?_, ?_, ?_⟩
  · simp only [fhI_r]; rfl
  · simp only [fhI_r]; rfl
  · simp only [fhI_r]; rfl
  · simp only [fhI_r]; rfl
  · simp only [fhI_r]; rfl
  · intro i hi
    simp only [fhI_r, show ¬ (2 = 3) by decide, false_and, if_false]
    exact hx i hi
  · exact fr_I (fr_I (fr_I (fr_I (fr_I fr_rf (Or.inr ⟨rfl, by omega, by omega⟩)) (Or.inr ⟨rfl, by omega, by omega⟩)) (Or.inr ⟨rfl, by omega, by omega⟩)) (Or.inr ⟨rfl, by omega, by omega⟩)) (Or.inr ⟨rfl, by omega, by omega⟩)
