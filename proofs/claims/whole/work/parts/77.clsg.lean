/-! THE CLASS READS TESTS AND SUMS -/
theorem c_kd {T : tT} {m k : Nat} (hm : tend T m) (h : kd T k ≠ 0) : k < m := by
  rcases Nat.lt_or_ge k m with q | q
  · exact q
  · exfalso
    have key : ∀ d, kd T (m + d) = 0 := by
      intro d
      induction d with
      | zero => exact hm.2.1
      | succ d ih => exact kd_0s ih
    have := key (k - m)
    rw [show m + (k - m) = k by omega] at this
    exact h this
theorem nI_e {a b : Nat} (ha : a < 2 ^ 31) (hb : b < 2 ^ 31) : (nI a = nI b) = (a = b) := propext (nI_eq ha hb)
theorem c_isSign {T : tT} (hT : tOK T) {m k c : Nat} (hm : tend T m) {σ : fhM} (h : cP T m k σ) (hc : c < 256) : (f_X8_isSign (nI c) σ = true) = isg T k c := by
  obtain ⟨h1, h2, h3, h4, h5, h6, h7, h8, h9⟩ := h
  unfold f_X8_isSign isg
  have a1 := kd_le4 T k
  rw [h8]
  by_cases q : kd T k = 3
  · have h0 : kd T k ≠ 0 := by omega
    rw [if_pos (show nI (kd T k) = (3 : Int32) by rw [q]; rfl), (h9 (c_kd hm h0)).1]
    have e := kd_13 (T := T) (k := k) (by omega)
    have e2 : val T k = T.1 (fm T k) := by
      unfold val
      rw [if_neg (by omega), if_neg (by omega)]
    have hb := hT.2 (fm T k)
    rw [e2]
    by_cases q2 : T.1 (fm T k) = c
    · rw [if_pos (by rw [q2])]; exact propext ⟨fun _ => ⟨q, q2⟩, fun _ => rfl⟩
    · rw [if_neg (fun z => q2 ((nI_eq (by omega) (by omega)).mp z))]; exact propext ⟨fun z => (by cases z), fun z => absurd z.2 q2⟩
  · rw [if_neg (show ¬ nI _ = (3 : Int32) from nIn q (b := 3) (by omega) (by decide))]
    exact propext ⟨fun z => (by cases z), fun z => absurd z.1 q⟩
theorem wno_w {T : tT} {k : Nat} (h : kd T k = 1) : wno T k = ow (lt T k) := by
  have e := kd_13 (T := T) (k := k) (by omega)
  unfold wno
  rw [if_pos (by omega)]
theorem c_wh {T : tT} {m k : Nat} (hm : tend T m) {σ : fhM} (h : cP T m k σ) : f_X8_wordHere σ = nI (if kd T k = 1 then ow (lt T k) else 99) := by
  obtain ⟨h1, h2, h3, h4, h5, h6, h7, h8, h9⟩ := h
  unfold f_X8_wordHere
  have a1 := kd_le4 T k
  rw [h8]
  by_cases q : kd T k = 1
  · rw [if_pos (show nI (kd T k) = (1 : Int32) by rw [q]; rfl), (h9 (c_kd hm (by omega))).2, if_pos q, wno_w q]
  · rw [if_neg (show ¬ nI _ = (1 : Int32) from nIn q (b := 1) (by omega) (by decide)), if_neg q]
    rfl
theorem c_isWord {T : tT} {m k j : Nat} (hm : tend T m) {σ : fhM} (h : cP T m k σ) (hj : j < 32) : (f_X8_isWord (nI j) σ = true) = isw T k j := by
  obtain ⟨h1, h2, h3, h4, h5, h6, h7, h8, h9⟩ := h
  unfold f_X8_isWord isw
  have a1 := kd_le4 T k
  have a2 := ow_99 (l := lt T k)
  rw [h8]
  by_cases q : kd T k = 1
  · rw [if_pos (show nI (kd T k) = (1 : Int32) by rw [q]; rfl), (h9 (c_kd hm (by omega))).2, wno_w q]
    by_cases q2 : ow (lt T k) = j
    · rw [if_pos (by rw [q2])]; exact propext ⟨fun _ => ⟨q, q2⟩, fun _ => rfl⟩
    · rw [if_neg (fun z => q2 ((nI_eq (by omega) (by omega)).mp z))]; exact propext ⟨fun z => (by cases z), fun z => absurd z.2 q2⟩
  · rw [if_neg (show ¬ nI _ = (1 : Int32) from nIn q (b := 1) (by omega) (by decide))]
    exact propext ⟨fun z => (by cases z), fun z => absurd z.1 q⟩
/-- a fault is noted -/
def cF (e : Nat × Nat) (σ : fhM) : Prop := σ.1 3 9 = nI e.1 ∧ σ.1 3 10 = nI e.2 ∧ σ.1 3 4 = 4 ∧ 1 ≤ e.1 ∧ e.1 ≤ 6
def cDf (t j : Nat) : Prop := t = 3 ∧ (j = 2 ∨ (4 ≤ j ∧ j ≤ 10))
theorem cF_n {e : Nat × Nat} {σ : fhM} (h : cF e σ) : ¬ σ.1 3 9 = 0 := by
  obtain ⟨h1, -, -, h4, h5⟩ := h
  rw [h1]
  exact nI_ne0 (by omega) (by omega)
theorem c_fail {T : tT} {m k : Nat} {σ : fhM} (h : cP T m k σ) {e : Nat × Nat} (he : 1 ≤ e.1 ∧ e.1 ≤ 6) : cF e (f_X8_fail (nI e.1) (nI e.2) σ) ∧ fr cDf σ (f_X8_fail (nI e.1) (nI e.2) σ) := by
  unfold f_X8_fail
  rw [if_pos h.2.2.2.1]
  refine ⟨⟨?_, ?_, ?_, he.1, he.2⟩, fr_I (fr_I (fr_I fr_rf ⟨rfl, by omega⟩) ⟨rfl, by omega⟩) ⟨rfl, by omega⟩⟩
  · simp (disch := omega) only [fhI_e, fhI_o, fhI_s]
  · simp (disch := omega) only [fhI_e, fhI_o, fhI_s]
  · simp (disch := omega) only [fhI_e, fhI_o, fhI_s]
theorem c_failN {e : Nat × Nat} {σ : fhM} (h : cF e σ) (a b : Int32) : f_X8_fail a b σ = σ := by
  unfold f_X8_fail
  rw [if_neg (cF_n h)]
theorem c_failHere {T : tT} {m k : Nat} {σ : fhM} (h : cP T m k σ) : cF (1, fm T k) (f_X8_failHere σ) ∧ fr cDf σ (f_X8_failHere σ) := by
  unfold f_X8_failHere fhlet
  (try dsimp only)
  rw [h.2.2.2.2.2.1]
  exact c_fail (e := (1, fm T k)) h ⟨Nat.le_of_ble_eq_true rfl, Nat.le_of_ble_eq_true rfl⟩
theorem c_failHereN {e : Nat × Nat} {σ : fhM} (h : cF e σ) : f_X8_failHere σ = σ := by
  unfold f_X8_failHere fhlet
  (try dsimp only)
  exact c_failN h _ _
theorem c_advN {e : Nat × Nat} {σ : fhM} (h : cF e σ) : f_X8_advance σ = σ := by
  unfold f_X8_advance
  rw [if_neg (cF_n h)]
theorem c_isSignN {e : Nat × Nat} {σ : fhM} (h : cF e σ) (c : Int32) : f_X8_isSign c σ = false := by
  unfold f_X8_isSign
  rw [h.2.2.1, if_neg (by decide)]
theorem c_isWordN {e : Nat × Nat} {σ : fhM} (h : cF e σ) (c : Int32) : f_X8_isWord c σ = false := by
  unfold f_X8_isWord
  rw [h.2.2.1, if_neg (by decide)]
theorem c_isNumberN {e : Nat × Nat} {σ : fhM} (h : cF e σ) : f_X8_isNumber σ = false := by
  unfold f_X8_isNumber
  rw [h.2.2.1, if_neg (by decide)]
theorem c_takeSignN {e : Nat × Nat} {σ : fhM} (h : cF e σ) (c : Int32) : f_X8_takeSign c σ = σ := by
  unfold f_X8_takeSign f_X8_takeSign_12 fhlet
  (try dsimp only)
  rw [c_isSignN h, if_neg (by decide), c_failHereN h, c_advN h]
theorem c_takeWordN {e : Nat × Nat} {σ : fhM} (h : cF e σ) (c : Int32) : f_X8_takeWord c σ = σ := by
  unfold f_X8_takeWord f_X8_takeWord_12 fhlet
  (try dsimp only)
  rw [c_isWordN h, if_neg (by decide), c_failHereN h, c_advN h]
theorem cDa_f {t j : Nat} (h : cDa t j) : cDf t j := by unfold cDa at h; unfold cDf; omega
theorem c_takeSign {T : tT} (hT : tOK T) {m k c : Nat} (hm : tend T m) {σ : fhM} (h : cP T m k σ) (hc : c < 256) : (isg T k c → cP T m (k + 1) (f_X8_takeSign (nI c) σ)) ∧ (¬ isg T k c → cF (1, fm T k) (f_X8_takeSign (nI c) σ)) ∧ fr cDf σ (f_X8_takeSign (nI c) σ) := by
  unfold f_X8_takeSign f_X8_takeSign_12 fhlet
  (try dsimp only)
  by_cases q : isg T k c
  · rw [if_pos (by rw [c_isSign hT hm h hc]; exact q)]
    obtain ⟨a, b⟩ := c_adv hT hm (c_kd hm (isg_k q)) h
    exact ⟨fun _ => a, fun z => absurd q z, fr_mo b (fun _ _ => cDa_f)⟩
  · rw [if_neg (by rw [c_isSign hT hm h hc]; exact q)]
    obtain ⟨a, b⟩ := c_failHere h
    rw [c_advN a]
    exact ⟨fun z => absurd z q, fun _ => a, b⟩
theorem c_takeWord {T : tT} (hT : tOK T) {m k j : Nat} (hm : tend T m) {σ : fhM} (h : cP T m k σ) (hj : j < 32) : (isw T k j → cP T m (k + 1) (f_X8_takeWord (nI j) σ)) ∧ (¬ isw T k j → cF (1, fm T k) (f_X8_takeWord (nI j) σ)) ∧ fr cDf σ (f_X8_takeWord (nI j) σ) := by
  unfold f_X8_takeWord f_X8_takeWord_12 fhlet
  (try dsimp only)
  by_cases q : isw T k j
  · rw [if_pos (by rw [c_isWord hm h hj]; exact q)]
    obtain ⟨a, b⟩ := c_adv hT hm (c_kd hm (isw_k q)) h
    exact ⟨fun _ => a, fun z => absurd q z, fr_mo b (fun _ _ => cDa_f)⟩
  · rw [if_neg (by rw [c_isWord hm h hj]; exact q)]
    obtain ⟨a, b⟩ := c_failHere h
    rw [c_advN a]
    exact ⟨fun z => absurd z q, fun _ => a, b⟩
theorem val_n {T : tT} {k : Nat} (h : kd T k = 2) (h4 : to T k - fm T k ≤ 4) : val T k = nv T k := by
  have e := kd_13 (T := T) (k := k) (by omega)
  unfold val nv
  rw [if_neg (by omega), if_pos (by omega), show min (to T k - fm T k) 4 = to T k - fm T k by omega]
/-- a number token, without bounds -/
theorem c_takeNumber {T : tT} (hT : tOK T) {m k : Nat} (hm : tend T m) {σ : fhM} (h : cP T m k σ) (hk : kd T k = 2) : (to T k - fm T k ≤ 4 → (f_X8_takeNumber σ).1 = nI (nv T k) ∧ cP T m (k + 1) (f_X8_takeNumber σ).2) ∧ (4 < to T k - fm T k → cF (1, fm T k + 4) (f_X8_takeNumber σ).2) ∧ fr cDf σ (f_X8_takeNumber σ).2 := by
  have hT2 := hT.1
  have hl := to_le T k
  have hg := to_gt (T := T) (k := k) (by omega)
  have hkm := c_kd hm (show kd T k ≠ 0 by omega)
  have h0 := h
  obtain ⟨h1, h2, h3, h4, h5, h6, h7, h8, h9⟩ := h0
  unfold f_X8_takeNumber f_X8_takeNumber_12 f_X8_takeNumber_36 fhlet
  (try dsimp only)
  rw [if_pos (show σ.1 3 4 = (2 : Int32) by rw [h8, hk]; rfl), h7, h6, pk_sub (by omega)]
  by_cases q : to T k - fm T k ≤ 4
  · rw [if_pos (show nI (to T k - fm T k) ≤ (4 : Int32) from nI_le (b := 4) q (by decide))]
    obtain ⟨a, b⟩ := c_adv hT hm hkm h
    exact ⟨fun _ => ⟨by rw [(h9 hkm).1, val_n hk q], a⟩, fun z => by omega, fr_mo b (fun _ _ => cDa_f)⟩
  · rw [if_neg (show ¬ nI (to T k - fm T k) ≤ (4 : Int32) from nI_ge (a := 4) (by omega) (by omega)), show (4 : Int32) = nI 4 from rfl, nI_add]
    obtain ⟨a, b⟩ := c_fail (e := (1, fm T k + 4)) h ⟨Nat.le_of_ble_eq_true rfl, Nat.le_of_ble_eq_true rfl⟩
    have a : cF (1, fm T k + 4) (f_X8_fail 1 (nI (fm T k + 4)) σ) := a
    have b : fr cDf σ (f_X8_fail 1 (nI (fm T k + 4)) σ) := b
    rw [c_advN a]
    exact ⟨fun z => by omega, fun _ => a, b⟩
theorem c_tnN {e : Nat × Nat} {σ : fhM} (h : cF e σ) : (f_X8_takeNumber σ).2 = σ := by
  unfold f_X8_takeNumber f_X8_takeNumber_12 f_X8_takeNumber_36 fhlet
  (try dsimp only)
  rw [h.2.2.1, if_neg (show ¬ (4 : Int32) = 2 by decide), c_failHereN h, c_failN h, c_advN h]
  split <;> rfl
theorem c_tnwN {e : Nat × Nat} {σ : fhM} (h : cF e σ) (a b : Int32) : (f_X8_takeNumberWithin a b σ).2 = σ := by
  unfold f_X8_takeNumberWithin f_X8_takeNumberWithin_23 fhlet
  (try dsimp only)
  rw [c_tnN h, c_failN h]
  split
  · rfl
  · split <;> rfl
theorem c_tnw {T : tT} (hT : tOK T) {m k lo hi : Nat} (hm : tend T m) {σ : fhM} (h : cP T m k σ) (hlo : lo < 2 ^ 31) (hhi : hi < 2 ^ 31) : ((nF T k lo hi).1 = 0 → cP T m (k + 1) (f_X8_takeNumberWithin (nI lo) (nI hi) σ).2 ∧ (f_X8_takeNumberWithin (nI lo) (nI hi) σ).1 = nI (nv T k)) ∧ ((nF T k lo hi).1 ≠ 0 → cF (nF T k lo hi) (f_X8_takeNumberWithin (nI lo) (nI hi) σ).2) ∧ fr cDf σ (f_X8_takeNumberWithin (nI lo) (nI hi) σ).2 := by
  have hT2 := hT.1
  have hl := to_le T k
  by_cases hk : kd T k = 2
  · obtain ⟨n1, n2, n3⟩ := c_takeNumber hT hm h hk
    unfold f_X8_takeNumberWithin f_X8_takeNumberWithin_23 fhlet
    (try dsimp only)
    by_cases q : to T k - fm T k ≤ 4
    · obtain ⟨e1, e2⟩ := n1 q
      have hb : nv T k < 10 ^ 4 := by
        have h0 : kd T k ≠ 0 := by omega
        have e := kd_13 (T := T) (k := k) (by omega)
        have := nmv_lt (T := T) (f := fm T k) (to T k - fm T k) (fun j hj => by rw [lt_sort h0 (by omega) (by omega) (by omega)]; omega)
        have hp : (10 : Nat) ^ (to T k - fm T k) ≤ 10 ^ 4 := Nat.pow_le_pow_right (by decide) q
        unfold nv
        omega
      rw [e1, h.2.2.2.2.2.1]
      by_cases q1 : nv T k < lo
      · rw [if_pos (nI_lt q1 hlo)]
        have e : nF T k lo hi = (2, fm T k) := by unfold nF; rw [if_neg (by omega), if_neg (by omega), if_pos (by omega)]
        rw [e]
        obtain ⟨a, b⟩ := c_fail (e := (2, fm T k)) e2 ⟨Nat.le_of_ble_eq_true rfl, Nat.le_of_ble_eq_true rfl⟩
        exact ⟨fun z => (by cases z), fun _ => a, fr_tr n3 b⟩
      · rw [if_neg (nI_nlt (by omega) (by omega))]
        by_cases q2 : nv T k ≤ hi
        · rw [if_pos (nI_le q2 hhi)]
          have e : nF T k lo hi = (0, 0) := by unfold nF; rw [if_neg (by omega), if_neg (by omega), if_neg (by omega)]
          rw [e]
          exact ⟨fun _ => ⟨e2, rfl⟩, fun z => absurd rfl z, n3⟩
        · rw [if_neg (nI_ge (by omega) (by omega))]
          have e : nF T k lo hi = (2, fm T k) := by unfold nF; rw [if_neg (by omega), if_neg (by omega), if_pos (by omega)]
          rw [e]
          obtain ⟨a, b⟩ := c_fail (e := (2, fm T k)) e2 ⟨Nat.le_of_ble_eq_true rfl, Nat.le_of_ble_eq_true rfl⟩
          exact ⟨fun z => (by cases z), fun _ => a, fr_tr n3 b⟩
    · have e2 := n2 (by omega)
      have e : nF T k lo hi = (1, fm T k + 4) := by unfold nF; rw [if_neg (by omega), if_pos (by omega)]
      rw [e]
      have z : ∀ a b, f_X8_fail a b (f_X8_takeNumber σ).2 = (f_X8_takeNumber σ).2 := c_failN e2
      simp only [z]
      refine ⟨fun z => (by cases z), fun _ => ?_, ?_⟩
      · split
        · exact e2
        · split <;> exact e2
      · split
        · exact n3
        · split <;> exact n3
  · have e : nF T k lo hi = (1, fm T k) := by unfold nF; rw [if_pos hk]
    rw [e]
    obtain ⟨a, b⟩ := c_failHere h
    have a1 := kd_le4 T k
    have e2 : f_X8_takeNumber σ = ((f_X8_failHere σ).1 3 6, f_X8_failHere σ) := by
      unfold f_X8_takeNumber f_X8_takeNumber_12 f_X8_takeNumber_36 fhlet
      (try dsimp only)
      rw [h.2.2.2.2.2.2.2.1, if_neg (show ¬ nI _ = (2 : Int32) from nIn hk (b := 2) (by omega) (by decide)), c_failN a, c_advN a]
      split <;> rfl
    unfold f_X8_takeNumberWithin f_X8_takeNumberWithin_23 fhlet
    (try dsimp only)
    rw [e2]
    simp only [c_failN a]
    refine ⟨fun z => (by cases z), fun _ => ?_, ?_⟩
    · split
      · exact a
      · split <;> exact a
    · split
      · exact b
      · split <;> exact b
