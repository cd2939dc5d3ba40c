/-! THE REFERENCE WORKS CODES -/
def skM : List Int → (Nat → Int64) → Prop
  | [], _ => True
  | v :: r, g => g r.length = lI v ∧ skM r g
theorem skM_fr {g g' : Nat → Int64} : ∀ {st : List Int}, skM st g → (∀ j, j < st.length → g' j = g j) → skM st g' := by
  intro st
  induction st with
  | nil => intro _ _; trivial
  | cons v r ih =>
    intro h hf
    exact ⟨by rw [hf r.length (by rw [List.length_cons]; omega)]; exact h.1, ih h.2 (fun j hj => hf j (by rw [List.length_cons]; omega))⟩
def mst (σ : fhM) (n : Nat) (gg : Nat → Int64) : fhM := fhV (fhI σ 0 105 (nI n)) 78 gg
theorem mst_h {σ : fhM} {n : Nat} {gg : Nat → Int64} : (mst σ n gg).1 0 105 = nI n := by
  unfold mst
  rw [fhV_1, fhI_e]
theorem mst_o {σ : fhM} {n t j : Nat} {gg : Nat → Int64} (h : ¬ (t = 0 ∧ j = 105)) : (mst σ n gg).1 t j = σ.1 t j := by
  unfold mst
  rw [fhV_1, fhI_r, if_neg h]
theorem mst_g {σ : fhM} {n j : Nat} {gg : Nat → Int64} : (mst σ n gg).2.1 78 j = gg j := by
  unfold mst
  rw [fhV_e]
theorem mst_set {σ : fhM} {n m : Nat} {gg : Nat → Int64} : fhI (mst σ n gg) 0 105 (nI m) = mst σ m gg := by
  unfold mst
  rw [fhV_I, fhI_I]
theorem mst_J {σ : fhM} {n k : Nat} {gg : Nat → Int64} {x : Int64} : fhJ (mst σ n gg) 78 k x = mst σ n (fun j => if j = k then x else gg j) := by
  unfold mst
  rw [fhV_J]
theorem m_puts {σ : fhM} {n : Nat} {gg : Nat → Int64} {v : Int64} (hn : n < 1700) : f_X12_qPuts v (mst σ n gg) = some (mst σ (n + 1) (fun j => if j = n then v else gg j)) := by
  unfold f_X12_qPuts
  rw [mst_h, if_pos (ph_in1 (by omega) hn), ph_ix (by omega), nI_1, mst_J, mst_set]
theorem m_clip {v : Int} (h1 : -10000000000000 ≤ v) (h2 : v ≤ 10000000000000) (σ : fhM) : f_X12_qClip (lI v) σ = lI (clip v) := by
  unfold f_X12_qClip clip
  rw [lI_mM, lI_M]
  have e1 : (lg_cmp (lI v) (lI 1000000) ≤ 0) = (v ≤ 1000000) := by rw [lg_cmp_le, lI_leP (by omega) (by omega) (by omega) (by omega)]
  have e2 : (0 ≤ lg_cmp (lI v) (lI (-1000000))) = (-1000000 ≤ v) := by rw [lg_cmp_ge, lI_leP (by omega) (by omega) (by omega) (by omega)]
  simp only [e1, e2]
  by_cases q1 : v ≤ 1000000
  · rw [if_pos q1, if_neg (show ¬ 1000000 < v by omega)]
    by_cases q2 : -1000000 ≤ v
    · rw [if_pos q2, if_neg (show ¬ v < -1000000 by omega)]
    · rw [if_neg q2, if_pos (show v < -1000000 by omega)]
  · rw [if_neg q1, if_pos (show 1000000 < v by omega)]
theorem lI_div {a b : Int} (ha : bnd a) (hb : bnd b) : lI a / lI b = lI (a.tdiv b) := by
  have h := tdiv_b (b := b) ha
  unfold bnd at ha hb h
  have hm : lI a ≠ Int64.minValue := by
    intro z
    have := lI_t (v := a) (by omega) (by omega)
    rw [z] at this
    have e : Int64.minValue.toInt = -9223372036854775808 := by decide
    omega
  refine Int64.toInt_inj.mp ?_
  rw [Int64.toInt_div_of_ne_left _ _ hm, lI_t (by omega) (by omega), lI_t (by omega) (by omega), lI_t (by omega) (by omega)]
theorem m_floor {a b : Int} (ha : bnd a) (hb : bnd b) (σ : fhM) : f_X12_qFloor (lI a) (lI b) σ = some (lI (dvi a b)) := by
  have ha' := ha
  have hb' := hb
  have ht := tdm_b (b := b) ha
  unfold bnd at ha' hb'
  unfold f_X12_qFloor f_X12_qFloor_32 f_X12_qFloor_43 f_X12_qFloor_53 dvi
  have z0 : (lg_cmp (lI b) 0 = 0) = (b = 0) := by rw [lI_0, lg_cmp_eq, lI_eqP (by omega) (by omega) (by omega) (by omega)]
  have z1 : (0 ≤ lg_cmp (lI b) 0) = (0 ≤ b) := by rw [lI_0, lg_cmp_ge, lI_leP (by omega) (by omega) (by omega) (by omega)]
  have z2 : (0 ≤ lg_cmp (lI a) 0) = (0 ≤ a) := by rw [lI_0, lg_cmp_ge, lI_leP (by omega) (by omega) (by omega) (by omega)]
  have hr : fhreml (lI a) (lI b) = lI (a - a.tdiv b * b) := by
    unfold fhreml
    rw [lI_div ha hb, lI_mul, lI_sub]
  have z3 : (lg_cmp (lI (a - a.tdiv b * b)) 0 = 0) = (a.tdiv b * b = a) := by
    rw [lI_0, lg_cmp_eq, lI_eqP (by omega) (by omega) (by omega) (by omega)]
    exact propext (by omega)
  rw [hr, lI_div ha hb]
  simp only [z0, z1, z2, z3]
  by_cases q0 : b = 0
  · rw [if_pos q0, if_pos q0, lI_0]
  · have hn : fhnzl (lI b) = true := by
      unfold fhnzl
      rw [lI_0, decide_eq_false (by rw [lI_eqP (by omega) (by omega) (by omega) (by omega)]; exact q0)]
      rfl
    rw [if_neg q0, if_neg q0, hn, if_pos (show (true && (true && true)) = true from rfl)]
    by_cases q1 : a.tdiv b * b = a
    · rw [if_pos q1, if_neg (fun z => z.2 q1)]
    · rw [if_neg q1]
      by_cases q2 : a < 0 <;> by_cases q3 : b < 0
      · rw [if_neg (show ¬ 0 ≤ b by omega), if_neg (show ¬ 0 ≤ a by omega), if_pos rfl, if_neg (fun z => z.1 ⟨fun _ => q3, fun _ => q2⟩)]
      · rw [if_pos (show 0 ≤ b by omega), if_neg (show ¬ 0 ≤ a by omega), if_neg (show ¬ (1 : Int32) = 0 by decide), if_pos ⟨fun z => q3 (z.mp q2), q1⟩, lI_1, lI_sub]
      · rw [if_neg (show ¬ 0 ≤ b by omega), if_pos (show 0 ≤ a by omega), if_neg (show ¬ (0 : Int32) = 1 by decide), if_pos ⟨fun z => q2 (z.mpr q3), q1⟩, lI_1, lI_sub]
      · rw [if_pos (show 0 ≤ b by omega), if_pos (show 0 ≤ a by omega), if_pos rfl, if_neg (fun z => z.1 ⟨fun y => absurd y q2, fun y => absurd y q3⟩)]
theorem m_joins {op : Nat} (ho : 4 ≤ op ∧ op ≤ 14) {a b : Int} (ha : bnd a) (hb : bnd b) (ht : op ≤ 12 ∨ ((a = 0 ∨ a = 1) ∧ (b = 0 ∨ b = 1))) {σ : fhM} {n : Nat} {gg : Nat → Int64} (hn : n < 1000) (h1 : gg (n + 1) = lI b) (h2 : gg n = lI a) : f_X12_qJoins (nI (op - 3)) (mst σ (n + 2) gg) = some (mst σ (n + 1) (fun j => if j = n then lI (bop op a b) else gg j)) := by
  have ha' := ha
  have hb' := hb
  unfold bnd at ha' hb'
  have hab : -1000000000000 ≤ a * b ∧ a * b ≤ 1000000000000 := by
    have h1 : (a * b).natAbs = a.natAbs * b.natAbs := Int.natAbs_mul a b
    have h2 : a.natAbs * b.natAbs ≤ 1000000 * 1000000 := Nat.mul_le_mul (by omega) (by omega)
    omega
  have e1 : nI (n + 2) - (1 : Int32) = nI (n + 1) := nI_pred (n + 1)
  have e2 : nI (n + 2) - (2 : Int32) = nI n := by rw [show (2 : Int32) = nI 2 from rfl, pk_sub (by omega)]; rfl
  have le1 : (0 ≤ lg_cmp (lI a) (lI b)) = (b ≤ a) := by rw [lg_cmp_ge, lI_leP (by omega) (by omega) (by omega) (by omega)]
  have le2 : (lg_cmp (lI a) (lI b) ≤ 0) = (a ≤ b) := by rw [lg_cmp_le, lI_leP (by omega) (by omega) (by omega) (by omega)]
  have eq1 : (lg_cmp (lI a) (lI b) = 0) = (a = b) := by rw [lg_cmp_eq, lI_eqP (by omega) (by omega) (by omega) (by omega)]
  have le3 : (lg_cmp (lI (a + b)) 0 ≤ 0) = (a + b ≤ 0) := by rw [lI_0, lg_cmp_le, lI_leP (by omega) (by omega) (by omega) (by omega)]
  have put : ∀ v : Int, f_X12_qPuts (lI v) (mst σ n gg) = some (mst σ (n + 1) (fun j => if j = n then lI v else gg j)) := fun v => m_puts (by omega)
  unfold f_X12_qJoins f_X12_qJoins_161 f_X12_qJoins_181 f_X12_qJoins_200 f_X12_qJoins_219 f_X12_qJoins_238 f_X12_qJoins_270
  rw [mst_h, e1, e2, ph_in (by omega), ph_in (by omega), decide_eq_true (show n + 1 < 1700 by omega), decide_eq_true (show n < 1700 by omega), if_pos (show (true && (true && true)) = true from rfl), ph_ix (by omega), ph_ix (by omega), mst_g, mst_g, h1, h2, mst_set, lI_add, lI_sub, lI_mul, m_clip (by omega) (by omega), m_clip (by omega) (by omega), m_clip (by omega) (by omega), m_floor ha hb]
  simp only [le1, le2, eq1, le3]
  rw [put, put, put, put]
  have c : ∀ j k : Nat, j ≠ k → j < 100 → k < 100 → ¬ nI j = nI k := fun j k h1 h2 h3 => nIn h1 (by omega) (by omega)
  have : op = 4 ∨ op = 5 ∨ op = 6 ∨ op = 7 ∨ op = 8 ∨ op = 9 ∨ op = 10 ∨ op = 11 ∨ op = 12 ∨ op = 13 ∨ op = 14 := by omega
  rcases this with rfl | rfl | rfl | rfl | rfl | rfl | rfl | rfl | rfl | rfl | rfl
  · rw [if_pos (show nI 1 = (1 : Int32) from rfl)]; rfl
  · rw [if_neg (show ¬ nI 2 = (1 : Int32) by decide), if_pos (show nI 2 = (2 : Int32) from rfl)]; rfl
  · rw [if_neg (show ¬ nI 3 = (1 : Int32) by decide), if_neg (show ¬ nI 3 = (2 : Int32) by decide), if_pos (show nI 3 = (3 : Int32) from rfl)]; rfl
  · rw [if_neg (show ¬ nI 4 = (1 : Int32) by decide), if_neg (show ¬ nI 4 = (2 : Int32) by decide), if_neg (show ¬ nI 4 = (3 : Int32) by decide), if_pos (show nI 4 = (4 : Int32) from rfl), Option.bind_some, put]; rfl
  · rw [if_neg (show ¬ nI 5 = (1 : Int32) by decide), if_neg (show ¬ nI 5 = (2 : Int32) by decide), if_neg (show ¬ nI 5 = (3 : Int32) by decide), if_neg (show ¬ nI 5 = (4 : Int32) by decide), if_pos (show nI 5 = (5 : Int32) from rfl)]
    have e : (if b ≤ a then lI b else lI a) = lI (bop 8 a b) := by
      show _ = lI (if b < a then b else a)
      by_cases q : b ≤ a
      · rw [if_pos q]
        by_cases q2 : b < a
        · rw [if_pos q2]
        · rw [if_neg q2, show b = a by omega]
      · rw [if_neg q, if_neg (by omega)]
    rw [e, put]; rfl
  · rw [if_neg (show ¬ nI 6 = (1 : Int32) by decide), if_neg (show ¬ nI 6 = (2 : Int32) by decide), if_neg (show ¬ nI 6 = (3 : Int32) by decide), if_neg (show ¬ nI 6 = (4 : Int32) by decide), if_neg (show ¬ nI 6 = (5 : Int32) by decide), if_pos (show nI 6 = (6 : Int32) from rfl)]
    have e : (if a ≤ b then lI b else lI a) = lI (bop 9 a b) := by
      show _ = lI (if a < b then b else a)
      by_cases q : a ≤ b
      · rw [if_pos q]
        by_cases q2 : a < b
        · rw [if_pos q2]
        · rw [if_neg q2, show b = a by omega]
      · rw [if_neg q, if_neg (by omega)]
    rw [e, put]; rfl
  · rw [if_neg (show ¬ nI 7 = (1 : Int32) by decide), if_neg (show ¬ nI 7 = (2 : Int32) by decide), if_neg (show ¬ nI 7 = (3 : Int32) by decide), if_neg (show ¬ nI 7 = (4 : Int32) by decide), if_neg (show ¬ nI 7 = (5 : Int32) by decide), if_neg (show ¬ nI 7 = (6 : Int32) by decide), if_pos (show nI 7 = (7 : Int32) from rfl)]
    have e : (if b ≤ a then (0 : Int64) else (1 : Int64)) = lI (bop 10 a b) := by
      show _ = lI (if a < b then 1 else 0)
      by_cases q : b ≤ a
      · rw [if_pos q, if_neg (by omega), lI_0]
      · rw [if_neg q, if_pos (by omega), lI_1]
    rw [e, put]; rfl
  · rw [if_neg (show ¬ nI 8 = (1 : Int32) by decide), if_neg (show ¬ nI 8 = (2 : Int32) by decide), if_neg (show ¬ nI 8 = (3 : Int32) by decide), if_neg (show ¬ nI 8 = (4 : Int32) by decide), if_neg (show ¬ nI 8 = (5 : Int32) by decide), if_neg (show ¬ nI 8 = (6 : Int32) by decide), if_neg (show ¬ nI 8 = (7 : Int32) by decide), if_pos (show nI 8 = (8 : Int32) from rfl)]
    have e : (if a ≤ b then (0 : Int64) else (1 : Int64)) = lI (bop 11 a b) := by
      show _ = lI (if b < a then 1 else 0)
      by_cases q : a ≤ b
      · rw [if_pos q, if_neg (by omega), lI_0]
      · rw [if_neg q, if_pos (by omega), lI_1]
    rw [e, put]; rfl
  · rw [if_neg (show ¬ nI 9 = (1 : Int32) by decide), if_neg (show ¬ nI 9 = (2 : Int32) by decide), if_neg (show ¬ nI 9 = (3 : Int32) by decide), if_neg (show ¬ nI 9 = (4 : Int32) by decide), if_neg (show ¬ nI 9 = (5 : Int32) by decide), if_neg (show ¬ nI 9 = (6 : Int32) by decide), if_neg (show ¬ nI 9 = (7 : Int32) by decide), if_neg (show ¬ nI 9 = (8 : Int32) by decide), if_pos (show nI 9 = (9 : Int32) from rfl)]
    have e : (if a = b then (1 : Int64) else (0 : Int64)) = lI (bop 12 a b) := by
      show _ = lI (if a = b then 1 else 0)
      by_cases q : a = b
      · rw [if_pos q, if_pos q, lI_1]
      · rw [if_neg q, if_neg q, lI_0]
    rw [e, put]; rfl
  · have ht : (a = 0 ∨ a = 1) ∧ (b = 0 ∨ b = 1) := ht.elim (fun z => absurd z (by decide)) id
    rw [if_neg (show ¬ nI 10 = (1 : Int32) by decide), if_neg (show ¬ nI 10 = (2 : Int32) by decide), if_neg (show ¬ nI 10 = (3 : Int32) by decide), if_neg (show ¬ nI 10 = (4 : Int32) by decide), if_neg (show ¬ nI 10 = (5 : Int32) by decide), if_neg (show ¬ nI 10 = (6 : Int32) by decide), if_neg (show ¬ nI 10 = (7 : Int32) by decide), if_neg (show ¬ nI 10 = (8 : Int32) by decide), if_neg (show ¬ nI 10 = (9 : Int32) by decide), if_pos (show nI 10 = (10 : Int32) from rfl)]
    have e : a * b = bop 13 a b := by
      show _ = (if a ≠ 0 ∧ b ≠ 0 then 1 else 0)
      rcases ht with ⟨rfl | rfl, rfl | rfl⟩ <;> decide
    rw [e]; rfl
  · have ht : (a = 0 ∨ a = 1) ∧ (b = 0 ∨ b = 1) := ht.elim (fun z => absurd z (by decide)) id
    rw [if_neg (show ¬ nI 11 = (1 : Int32) by decide), if_neg (show ¬ nI 11 = (2 : Int32) by decide), if_neg (show ¬ nI 11 = (3 : Int32) by decide), if_neg (show ¬ nI 11 = (4 : Int32) by decide), if_neg (show ¬ nI 11 = (5 : Int32) by decide), if_neg (show ¬ nI 11 = (6 : Int32) by decide), if_neg (show ¬ nI 11 = (7 : Int32) by decide), if_neg (show ¬ nI 11 = (8 : Int32) by decide), if_neg (show ¬ nI 11 = (9 : Int32) by decide), if_neg (show ¬ nI 11 = (10 : Int32) by decide)]
    have e : (if a + b ≤ 0 then (0 : Int64) else (1 : Int64)) = lI (bop 14 a b) := by
      show _ = lI (if a ≠ 0 ∨ b ≠ 0 then 1 else 0)
      rcases ht with ⟨rfl | rfl, rfl | rfl⟩ <;> decide +kernel
    rw [e, put]; rfl
section
variable {lf : Nat → Int} {lk : Nat → Int → Int} {q : Bool} {g : Nat}
/-- the leaves of the reference, at guest i0 -/
def lvM (q : Bool) (g : Nat) (lf : Nat → Int) (lk : Nat → Int → Int) (i0 : Nat) (σ : fhM) : Prop := (∀ w, okc q g (1, w) = true → bnd (lf w) ∧ ∀ n gg, f_X12_qPartOf (nI (rEnc (1, w) - 40)) (nI i0) (mst σ n gg) = some (lI (lf w))) ∧ (∀ b n, okc q g (2, b) = true → bnd n → bnd (lk b n) ∧ ∀ k gg, f_X12_qOf (nI (rEnc (2, b) - 60)) (lI n) (nI i0) (mst σ k gg) = some (lI (lk b n)))
theorem rEnc_lo {c : Nat × Nat} (h : okc q g c = true) (hg : g ≤ 5) : rEnc c < 20000 := by
  have h15 := okc_15 h
  have hw := okc_w hg h
  obtain ⟨op, w⟩ := c
  have h15 : op ≤ 15 := h15
  have hw : w < 10000 := hw
  have : op = 0 ∨ op = 1 ∨ op = 2 ∨ op = 3 ∨ op = 4 ∨ op = 5 ∨ op = 6 ∨ op = 7 ∨ op = 8 ∨ op = 9 ∨ op = 10 ∨ op = 11 ∨ op = 12 ∨ op = 13 ∨ op = 14 ∨ op = 15 := by omega
  rcases this with rfl | rfl | rfl | rfl | rfl | rfl | rfl | rfl | rfl | rfl | rfl | rfl | rfl | rfl | rfl | rfl
  · show 1000 + w < 20000; omega
  · show (if w < 5 then 52 + w else if w < 9 then 35 + w else 34 + w) < 20000
    split
    · omega
    · split <;> omega
  · show (if w = 15 then 60 else if w = 20 then 61 else 62) < 20000
    split
    · decide
    · split <;> decide
  all_goals exact Nat.le_of_ble_eq_true rfl
theorem m_step {i0 : Nat} (hg : g ≤ 5) {σ : fhM} (hl : lvM q g lf lk i0 σ) {c : Nat × Nat} {st s : List Int} {gg : Nat → Int64} {k : Nat} (hc : okc q g c = true) (h : stp lf lk c st = some s) (hs : skM st gg) (hb : ∀ v ∈ st, bnd v) (h60 : st.length ≤ 60) {L : Nat} (h99 : σ.1 0 99 = nI L) (hkL : k < L) (hL : L ≤ 1600) (h76 : σ.1 76 k = nI (rEnc c)) :
    ∃ gg', f_X12_qTold_7 (nI i0) (nI k) (mst σ st.length gg) = some (.inl (nI (k + 1), mst σ s.length gg')) ∧ skM s gg' ∧ ∀ v ∈ s, bnd v := by
  have hlo := rEnc_lo hc hg
  have push : ∀ (r : List Int) (g2 : Nat → Int64) (v : Int), r.length ≤ 60 → skM r g2 → (∀ x ∈ r, bnd x) → bnd v → f_X12_qPuts (lI v) (mst σ r.length g2) = some (mst σ (v :: r).length (fun j => if j = r.length then lI v else g2 j)) ∧ skM (v :: r) (fun j => if j = r.length then lI v else g2 j) ∧ ∀ x ∈ v :: r, bnd x := by
    intro r g2 v hr h1 h2 h3
    refine ⟨m_puts (by omega), ⟨if_pos rfl, skM_fr h1 (fun j hj => if_neg (by omega))⟩, fun x hx => ?_⟩
    rcases List.mem_cons.mp hx with rfl | hx
    · exact h3
    · exact h2 x hx
  have h15 := okc_15 hc
  unfold f_X12_qTold_7
  rw [mst_o (by omega), h99, if_neg (nI_ge hkL (by omega)), if_pos (ph_in1 (by omega) (by omega)), ph_ix (by omega), mst_o (by omega), h76]
  obtain ⟨op, w⟩ := c
  have h15 : op ≤ 15 := h15
  have fin : ∀ x, f_X12_qTold_162 (nI i0) (nI k) x = some (.inl (nI (k + 1), x)) := fun x => by unfold f_X12_qTold_162; rw [nI_1]
  have cases16 : op = 0 ∨ op = 15 ∨ op = 1 ∨ op = 2 ∨ op = 3 ∨ (4 ≤ op ∧ op ≤ 14) := by omega
  rcases cases16 with rfl | rfl | rfl | rfl | rfl | hop
  · have hw : decide (w < 10000) = true := hc
    have hw := of_decide_eq_true hw
    cases h
    obtain ⟨p1, p2, p3⟩ := push st gg (w : Int) h60 hs hb (by unfold bnd; omega)
    refine ⟨_, ?_, p2, p3⟩
    have er : rEnc (0, w) = 1000 + w := rfl
    rw [er, if_neg (show ¬ nI (1000 + w) < (1000 : Int32) from nI_nlt (b := 1000) (by omega) (by omega)), show (1000 : Int32) = nI 1000 from rfl, pk_sub (by omega), show 1000 + w - 1000 = w by omega, nI_l (by omega), ← lI_n (by omega), p1, Option.bind_some, fin]
  · have hw : decide (w = 1) = true := hc
    have hw := of_decide_eq_true hw
    subst hw
    cases h
    obtain ⟨p1, p2, p3⟩ := push st gg 1 h60 hs hb (by unfold bnd; omega)
    refine ⟨_, ?_, p2, p3⟩
    have er : rEnc (15, 1) = 13 := rfl
    rw [er, if_pos (show nI 13 < (1000 : Int32) by decide), if_pos (show nI 13 < (60 : Int32) by decide), if_pos (show nI 13 < (40 : Int32) by decide), if_pos (show nI 13 = (13 : Int32) from rfl), lI_1, p1, Option.bind_some, fin]
  · cases h
    obtain ⟨l1, l2⟩ := hl.1 w hc
    obtain ⟨p1, p2, p3⟩ := push st gg (lf w) h60 hs hb l1
    refine ⟨_, ?_, p2, p3⟩
    have er : 40 ≤ rEnc (1, w) ∧ rEnc (1, w) < 60 := by
      show 40 ≤ (if w < 5 then 52 + w else if w < 9 then 35 + w else 34 + w) ∧ (if w < 5 then 52 + w else if w < 9 then 35 + w else 34 + w) < 60
      cases q with
      | true =>
        have h : (decide (10 ≤ w) && decide (w ≤ 14)) = true := hc
        simp only [Bool.and_eq_true, decide_eq_true_eq] at h
        rw [if_neg (by omega), if_neg (by omega)]
        omega
      | false =>
        have h : (decide (w < g) || (decide (5 ≤ w) && decide (w ≤ 8))) = true := hc
        simp only [Bool.or_eq_true, Bool.and_eq_true, decide_eq_true_eq] at h
        by_cases z : w < 5
        · rw [if_pos z]; omega
        · rw [if_neg z, if_pos (by omega)]; omega
    rw [if_pos (show nI (rEnc (1, w)) < (1000 : Int32) from nI_lt (b := 1000) (by omega) (by omega)), if_pos (show nI (rEnc (1, w)) < (60 : Int32) from nI_lt (b := 60) (by omega) (by omega)), if_neg (show ¬ nI (rEnc (1, w)) < (40 : Int32) from nI_nlt (b := 40) (by omega) (by omega)), show (40 : Int32) = nI 40 from rfl, pk_sub (by omega), l2, Option.bind_some, m_clip (by unfold bnd at l1; omega) (by unfold bnd at l1; omega), clip_id l1, p1, Option.bind_some, fin]
  · have h : st2 (lk w) st = some s := h
    cases st with
    | nil => cases h
    | cons n r =>
      cases h
      have hn := hb n List.mem_cons_self
      obtain ⟨l1, l2⟩ := hl.2 w n hc hn
      have h60' : r.length + 1 ≤ 60 := h60
      refine ⟨fun j => if j = r.length then lI (lk w n) else gg j, ?_, ⟨if_pos rfl, skM_fr hs.2 (fun j hj => if_neg (by omega))⟩, fun x hx => ?_⟩
      · have er : 60 ≤ rEnc (2, w) ∧ rEnc (2, w) ≤ 62 := by
          show 60 ≤ (if w = 15 then 60 else if w = 20 then 61 else 62) ∧ (if w = 15 then 60 else if w = 20 then 61 else 62) ≤ 62
          split
          · decide
          · split <;> decide
        have el : (n :: r).length = r.length + 1 := rfl
        rw [if_pos (show nI (rEnc (2, w)) < (1000 : Int32) from nI_lt (b := 1000) (by omega) (by omega)), if_neg (show ¬ nI (rEnc (2, w)) < (60 : Int32) from nI_nlt (b := 60) (by omega) (by omega)), mst_h, el, nI_pred, if_pos (ph_in1 (by omega) (by omega)), ph_ix (by omega), mst_g, hs.1, show (60 : Int32) = nI 60 from rfl, pk_sub (by omega), l2, Option.bind_some, if_pos (ph_in1 (by omega) (by omega)), m_clip (by unfold bnd at l1; omega) (by unfold bnd at l1; omega), clip_id l1, mst_J, fin]
        rfl
      · rcases List.mem_cons.mp hx with rfl | hx
        · exact l1
        · exact hb x (List.mem_cons_of_mem _ hx)
  · have h : st3 st = some s := h
    cases st with
    | nil => cases h
    | cons v r =>
      unfold st3 at h
      dsimp only at h
      by_cases hv : v = 0 ∨ v = 1
      · rw [if_pos hv] at h
        cases h
        have h60' : r.length + 1 ≤ 60 := h60
        refine ⟨fun j => if j = r.length then lI (1 - v) else gg j, ?_, ⟨if_pos rfl, skM_fr hs.2 (fun j hj => if_neg (by omega))⟩, fun x hx => ?_⟩
        · have er : rEnc (3, w) = 12 := rfl
          have el : (v :: r).length = r.length + 1 := rfl
          rw [er, if_pos (show nI 12 < (1000 : Int32) by decide), if_pos (show nI 12 < (60 : Int32) by decide), if_pos (show nI 12 < (40 : Int32) by decide), if_neg (show ¬ nI 12 = (13 : Int32) by decide), if_pos (show nI 12 = (12 : Int32) from rfl), mst_h, el, nI_pred, ph_in (by omega), decide_eq_true (show r.length < 1700 by omega), if_pos (show (true && (true && true)) = true from rfl), ph_ix (by omega), mst_g, hs.1, lI_1, lI_sub, mst_J, fin]
          rfl
        · rcases List.mem_cons.mp hx with rfl | hx
          · unfold bnd; omega
          · exact hb x (List.mem_cons_of_mem _ hx)
      · rw [if_neg hv] at h; cases h
  · rw [stp4 hop] at h
    match st, h, hs, hb, h60 with
    | [], h, _, _, _ => cases h
    | [_], h, _, _, _ => cases h
    | b :: a :: r, h, hs, hb, h60 =>
      unfold st4 at h
      dsimp only at h
      by_cases hv : op ≤ 12 ∨ ((a = 0 ∨ a = 1) ∧ (b = 0 ∨ b = 1))
      · rw [if_pos hv] at h
        cases h
        have h60' : r.length + 1 + 1 ≤ 60 := h60
        have ha := hb a (List.mem_cons_of_mem _ List.mem_cons_self)
        have hbb := hb b List.mem_cons_self
        refine ⟨fun j => if j = r.length then lI (bop op a b) else gg j, ?_, ⟨if_pos rfl, skM_fr hs.2.2 (fun j hj => if_neg (by omega))⟩, fun x hx => ?_⟩
        · have er : rEnc (op, w) = op - 3 := by
            obtain ⟨o1, o2⟩ := hop
            have : op = 4 ∨ op = 5 ∨ op = 6 ∨ op = 7 ∨ op = 8 ∨ op = 9 ∨ op = 10 ∨ op = 11 ∨ op = 12 ∨ op = 13 ∨ op = 14 := by omega
            rcases this with rfl | rfl | rfl | rfl | rfl | rfl | rfl | rfl | rfl | rfl | rfl <;> rfl
          have el : (b :: a :: r).length = r.length + 2 := rfl
          rw [er, if_pos (show nI (op - 3) < (1000 : Int32) from nI_lt (b := 1000) (by omega) (by omega)), if_pos (show nI (op - 3) < (60 : Int32) from nI_lt (b := 60) (by omega) (by omega)), if_pos (show nI (op - 3) < (40 : Int32) from nI_lt (b := 40) (by omega) (by omega)), if_neg (show ¬ nI (op - 3) = (13 : Int32) from nIn (a := op - 3) (b := 13) (by omega) (by omega) (by decide)), if_neg (show ¬ nI (op - 3) = (12 : Int32) from nIn (a := op - 3) (b := 12) (by omega) (by omega) (by decide)), el, m_joins hop ha hbb hv (by omega) hs.1 hs.2.1, Option.bind_some, fin]
          rfl
        · rcases List.mem_cons.mp hx with rfl | hx
          · exact bop_b ha hbb
          · exact hb x (List.mem_cons_of_mem _ (List.mem_cons_of_mem _ hx))
      · rw [if_neg hv] at h; cases h
theorem m_told {i0 : Nat} (hg : g ≤ 5) {σ : fhM} (hl : lvM q g lf lk i0 σ) {c : gC} (hS : rS c σ) (hL : c.length ≤ 1600) {v : Int} (h : run q g lf lk c [] = some [v]) : wq (f_X12_qTold (nI i0) σ) (fun r => r.1 = lI v ∧ bnd v ∧ ∃ gg, r.2 = mst σ 1 gg) := by
  have key : ∀ (d : gC) (k : Nat) (st : List Int) (gg : Nat → Int64), k + d.length = c.length → (∀ i x, d[i]? = some x → c[k + i]? = some x) → run q g lf lk d st = some [v] → skM st gg → (∀ x ∈ st, bnd x) → st.length ≤ 60 → wq (fhlp (fun x => f_X12_qTold_7 (nI i0) x.1 x.2) (nI k, mst σ st.length gg)) (fun r => r.1 = lI v ∧ bnd v ∧ ∃ gg, r.2 = mst σ 1 gg) := by
    intro d
    induction d with
    | nil =>
      intro k st gg hk hd h hs hb h60
      cases h
      have hk : k = c.length := hk
      refine wq_step ?_
      (try dsimp only)
      (try unfold f_X12_qTold_7)
      rw [mst_o (by omega), hS.1, if_pos (nI_le (by omega) (by omega)), wq_some, fhK_r, mst_g]
      exact ⟨hs.1, hb v List.mem_cons_self, gg, rfl⟩
    | cons x r ih =>
      intro k st gg hk hd h hs hb h60
      rw [List.length_cons] at hk
      obtain ⟨hx, s, h1, h2, h3⟩ := run_s h
      have hc0 := hd 0 x rfl
      obtain ⟨gg', w1, w2, w3⟩ := m_step hg hl hx h1 hs hb h60 hS.1 (by omega) hL (hS.2 k x hc0)
      refine wq_step ?_
      rw [w1, wq_some, fhK_l]
      exact ih (k + 1) s gg' (by omega) (fun i y hy => by rw [show k + 1 + i = k + (i + 1) by omega]; exact hd (i + 1) y hy) h3 w2 w3 h2
  unfold f_X12_qTold
  have e : fhI σ 0 105 (0 : Int32) = mst σ ([] : List Int).length (σ.2.1 78) := by
    unfold mst
    exact (fhV_id (σ := fhI σ 0 105 (nI 0)) (t := 78)).symm
  rw [e]
  exact key c 0 [] _ (by omega) (fun i x hx => by rw [Nat.zero_add]; exact hx) h trivial (fun x hx => by cases hx) (Nat.zero_le _)
end
