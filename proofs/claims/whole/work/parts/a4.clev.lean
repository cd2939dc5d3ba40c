/-! THE CLASS WORKS STEPS -/
def skF : List Int → (Nat → Int32) → Prop
  | [], _ => True
  | v :: r, g => g r.length = iI v ∧ skF r g
theorem skF_fr {g g' : Nat → Int32} : ∀ {st : List Int}, skF st g → (∀ j, j < st.length → g' j = g j) → skF st g' := by
  intro st
  induction st with
  | nil => intro _ _; trivial
  | cons v r ih =>
    intro h hf
    exact ⟨by rw [hf r.length (by rw [List.length_cons]; omega)]; exact h.1, ih h.2 (fun j hj => hf j (by rw [List.length_cons]; omega))⟩
def vst (σ : fhM) (n : Nat) (gg : Nat → Int32) : fhM := fhU (fhI σ 10 2 (nI n)) 14 gg
theorem vst_h {σ : fhM} {n : Nat} {gg : Nat → Int32} : (vst σ n gg).1 10 2 = nI n := by
  unfold vst
  rw [fhU_o (by decide), fhI_e]
theorem vst_set {σ : fhM} {n m : Nat} {gg : Nat → Int32} : fhI (vst σ n gg) 10 2 (nI m) = vst σ m gg := by
  unfold vst
  rw [fhU_IO (by decide), fhI_I]
theorem c_push {σ : fhM} {n : Nat} {gg : Nat → Int32} {v : Int32} (hn : n < 64) : f_X10_push v (vst σ n gg) = vst σ (n + 1) (fun j => if j = n then v else gg j) := by
  unfold f_X10_push
  rw [vst_h, cp13 hn, nI_1]
  have : fhI (vst σ n gg) 14 n v = vst σ n (fun j => if j = n then v else gg j) := by
    unfold vst
    rw [fhU_I]
  rw [this, vst_set]
theorem c_pop {σ : fhM} {n : Nat} {gg : Nat → Int32} (hn : n < 64) : f_X10_pop (vst σ (n + 1) gg) = (gg n, vst σ n gg) := by
  have e : f_J9_max_7cf53 (nI (n + 1) - (1 : Int32)) (0 : Int32) (vst σ (n + 1) gg) = nI n := by
    unfold f_J9_max_7cf53
    rw [nI_pred, if_neg (nI_pos (by omega))]
  unfold f_X10_pop
  rw [vst_h, e, vst_set, cg13 hn]
  have : (vst σ n gg).1 14 n = gg n := by unfold vst; rw [fhU_e]
  rw [this]
theorem c_hold {v : Int} (h1 : -10000000000000 ≤ v) (h2 : v ≤ 10000000000000) (σ : fhM) : f_X10_hold (lI v) σ = iI (clip v) := by
  unfold f_X10_hold f_J9_max_f86c9 f_J9_min_f86c9 clip
  rw [lI_mM, lI_M]
  by_cases q1 : 1000000 < v
  · rw [if_neg (show ¬ 0 < lg_cmp (lI 1000000) (lI v) by rw [lg_cmp_gt, lI_ltP (by omega) (by omega) (by omega) (by omega)]; omega), if_pos (show lg_cmp (lI (-1000000)) (lI 1000000) < 0 by rw [lg_cmp_lt, lI_ltP (by omega) (by omega) (by omega) (by omega)]; omega), if_pos q1, lI_i]
  · by_cases q3 : v = 1000000
    · subst q3
      rw [if_neg (show ¬ 0 < lg_cmp (lI 1000000) (lI 1000000) by rw [lg_cmp_gt, lI_ltP (by omega) (by omega) (by omega) (by omega)]; omega), if_pos (show lg_cmp (lI (-1000000)) (lI 1000000) < 0 by rw [lg_cmp_lt, lI_ltP (by omega) (by omega) (by omega) (by omega)]; omega), if_neg q1, if_neg (by omega), lI_i]
    · rw [if_pos (show 0 < lg_cmp (lI 1000000) (lI v) by rw [lg_cmp_gt, lI_ltP (by omega) (by omega) (by omega) (by omega)]; omega), if_neg q1]
      by_cases q2 : v < -1000000
      · rw [if_neg (show ¬ lg_cmp (lI (-1000000)) (lI v) < 0 by rw [lg_cmp_lt, lI_ltP (by omega) (by omega) (by omega) (by omega)]; omega), if_pos q2, lI_i]
      · rw [if_neg q2]
        by_cases q4 : v = -1000000
        · subst q4
          rw [if_neg (show ¬ lg_cmp (lI (-1000000)) (lI (-1000000)) < 0 by rw [lg_cmp_lt, lI_ltP (by omega) (by omega) (by omega) (by omega)]; omega), lI_i]
        · rw [if_pos (show lg_cmp (lI (-1000000)) (lI v) < 0 by rw [lg_cmp_lt, lI_ltP (by omega) (by omega) (by omega) (by omega)]; omega), lI_i]
theorem i32_neg {x : Int32} : x.toBitVec.msb = decide (x < 0) := by
  rw [BitVec.msb_eq_toInt]
  have : x.toBitVec.toInt = x.toInt := rfl
  rw [this]
  by_cases h : x < 0
  · have := Int32.lt_iff_toInt_lt.mp h
    have h0 : (0 : Int32).toInt = 0 := rfl
    rw [decide_eq_true h, decide_eq_true (by omega)]
  · have h2 : ¬ x.toInt < (0 : Int32).toInt := fun z => h (Int32.lt_iff_toInt_lt.mpr z)
    have h0 : (0 : Int32).toInt = 0 := rfl
    rw [decide_eq_false h, decide_eq_false (by omega)]
theorem i32_xs {x y : Int32} : (0 ≤ x ^^^ y) = (x < 0 ↔ y < 0) := by
  have h1 : (x ^^^ y).toBitVec.msb = (x.toBitVec.msb ^^ y.toBitVec.msb) := by
    rw [Int32.toBitVec_xor, BitVec.msb_xor]
  rw [i32_neg, i32_neg, i32_neg] at h1
  have h2 : (0 ≤ x ^^^ y) = ¬ (x ^^^ y < 0) := by
    rw [Int32.le_iff_toInt_le, Int32.lt_iff_toInt_lt]
    exact propext (by omega)
  rw [h2]
  by_cases a : x < 0 <;> by_cases b : y < 0
  · rw [decide_eq_true a, decide_eq_true b] at h1
    have : ¬ (x ^^^ y < 0) := of_decide_eq_false h1
    exact propext ⟨fun _ => ⟨fun _ => b, fun _ => a⟩, fun _ => this⟩
  · rw [decide_eq_true a, decide_eq_false b] at h1
    have : x ^^^ y < 0 := of_decide_eq_true h1
    exact propext ⟨fun z => absurd this z, fun z => absurd (z.mp a) b⟩
  · rw [decide_eq_false a, decide_eq_true b] at h1
    have : x ^^^ y < 0 := of_decide_eq_true h1
    exact propext ⟨fun z => absurd this z, fun z => absurd (z.mpr b) a⟩
  · rw [decide_eq_false a, decide_eq_false b] at h1
    have : ¬ (x ^^^ y < 0) := of_decide_eq_false h1
    exact propext ⟨fun _ => ⟨fun z => absurd z a, fun z => absurd z b⟩, fun _ => this⟩
theorem iI_div {a b : Int} (ha : bnd a) (hb : bnd b) : iI a / iI b = iI (a.tdiv b) := by
  have h := tdiv_b (b := b) ha
  unfold bnd at ha hb h
  have hm : iI a ≠ Int32.minValue := by
    intro z
    have := iI_t (v := a) (by omega) (by omega)
    rw [z] at this
    have e : Int32.minValue.toInt = -2147483648 := by decide
    omega
  refine Int32.toInt_inj.mp ?_
  rw [Int32.toInt_div_of_ne_left _ _ hm, iI_t (by omega) (by omega), iI_t (by omega) (by omega), iI_t (by omega) (by omega)]
theorem iI_mulE (a b : Int) : iI a * iI b = iI (a * b) := (Int32.ofInt_mul a b).symm
theorem tdm_b {a b : Int} (ha : bnd a) : -1000000 ≤ a.tdiv b * b ∧ a.tdiv b * b ≤ 1000000 := by
  have h := Int.natAbs_tdiv a b
  have h2 : (a.tdiv b * b).natAbs = (a.natAbs / b.natAbs) * b.natAbs := by rw [Int.natAbs_mul, h]; rfl
  have h3 := Nat.div_mul_le_self a.natAbs b.natAbs
  unfold bnd at ha
  omega
theorem c_div {a b : Int} (ha : bnd a) (hb : bnd b) (h0 : b ≠ 0) (σ : fhM) : f_J9_floorDiv_7cf53 (iI a) (iI b) σ = some (iI (dvi a b)) := by
  have ha' := ha
  have hb' := hb
  have ht := tdm_b (b := b) ha
  unfold bnd at ha' hb'
  unfold f_J9_floorDiv_7cf53 dvi
  have hn : fhnz (iI b) = true := by
    unfold fhnz
    rw [iI_0, decide_eq_false (by rw [iI_eqP (by omega) (by omega) (by omega) (by omega)]; exact h0)]
    rfl
  have hx : (0 ≤ iI a ^^^ iI b) = (a < 0 ↔ b < 0) := by
    rw [i32_xs, iI_0, iI_ltP (by omega) (by omega) (by omega) (by omega), iI_ltP (by omega) (by omega) (by omega) (by omega)]
  have hp : (iI (a.tdiv b * b) = iI a) = (a.tdiv b * b = a) := iI_eqP (by omega) (by omega) (by omega) (by omega)
  rw [hn, if_pos (show (true && true) = true from rfl), iI_div ha hb, iI_mulE, if_neg h0]
  by_cases q : (a < 0 ↔ b < 0)
  · rw [if_pos (by rw [hx]; exact q), if_neg (fun z => z.1 q)]
  · rw [if_neg (by rw [hx]; exact q)]
    by_cases q2 : a.tdiv b * b = a
    · rw [if_pos (by rw [hp]; exact q2), if_neg (fun z => z.2 q2)]
    · rw [if_neg (by rw [hp]; exact q2), if_pos ⟨q, q2⟩, iI_1, iI_sub]
theorem c_judge {op : Nat} (ho : 10 ≤ op ∧ op ≤ 14) {a b : Int} (ha : bnd a) (hb : bnd b) (σ : fhM) : f_X10_judge (nI op) (iI a) (iI b) σ = iI (bop op a b) := by
  unfold bnd at ha hb
  have le1 : (iI b ≤ iI a) = (b ≤ a) := iI_leP (by omega) (by omega) (by omega) (by omega)
  have le2 : (iI a ≤ iI b) = (a ≤ b) := iI_leP (by omega) (by omega) (by omega) (by omega)
  have eq1 : (iI a = iI b) = (a = b) := iI_eqP (by omega) (by omega) (by omega) (by omega)
  have za : (iI a = 0) = (a = 0) := by rw [iI_0]; exact iI_eqP (by omega) (by omega) (by omega) (by omega)
  have zb : (iI b = 0) = (b = 0) := by rw [iI_0]; exact iI_eqP (by omega) (by omega) (by omega) (by omega)
  have j0 : f_X10_judge_105 0 σ = iI 0 := by show (if (0 : Int32) = 0 then (0 : Int32) else 1) = iI 0; decide +kernel
  have j1 : f_X10_judge_105 1 σ = iI 1 := by show (if (1 : Int32) = 0 then (0 : Int32) else 1) = iI 1; decide +kernel
  unfold f_X10_judge f_X10_judge_42 f_X10_judge_56 f_X10_judge_70 f_X10_judge_86 f_X10_judge_87 f_X10_judge_99 f_X10_judge_104
  simp only [le1, le2, eq1, za, zb]
  have : op = 10 ∨ op = 11 ∨ op = 12 ∨ op = 13 ∨ op = 14 := by omega
  rcases this with rfl | rfl | rfl | rfl | rfl
  · rw [if_pos (show nI 10 = (10 : Int32) from rfl)]
    show _ = iI (if a < b then 1 else 0)
    by_cases q : a < b
    · rw [if_neg (show ¬ b ≤ a by omega), if_pos q, j1]
    · rw [if_pos (show b ≤ a by omega), if_neg q, j0]
  · rw [if_neg (show ¬ nI 11 = (10 : Int32) by decide), if_pos (show nI 11 = (11 : Int32) from rfl)]
    show _ = iI (if b < a then 1 else 0)
    by_cases q : b < a
    · rw [if_neg (show ¬ a ≤ b by omega), if_pos q, j1]
    · rw [if_pos (show a ≤ b by omega), if_neg q, j0]
  · rw [if_neg (show ¬ nI 12 = (10 : Int32) by decide), if_neg (show ¬ nI 12 = (11 : Int32) by decide), if_pos (show nI 12 = (12 : Int32) from rfl)]
    show _ = iI (if a = b then 1 else 0)
    by_cases q : a = b
    · rw [if_pos q, if_pos q, j1]
    · rw [if_neg q, if_neg q, j0]
  · rw [if_neg (show ¬ nI 13 = (10 : Int32) by decide), if_neg (show ¬ nI 13 = (11 : Int32) by decide), if_neg (show ¬ nI 13 = (12 : Int32) by decide), if_pos (show nI 13 = (13 : Int32) from rfl)]
    show _ = iI (if a ≠ 0 ∧ b ≠ 0 then 1 else 0)
    by_cases q : a = 0
    · rw [if_pos q, if_neg (fun z => z.1 q), j0]
    · rw [if_neg q]
      by_cases q2 : b = 0
      · rw [if_pos q2, if_neg (fun z => z.2 q2), j0]
      · rw [if_neg q2, if_pos ⟨q, q2⟩, j1]
  · rw [if_neg (show ¬ nI 14 = (10 : Int32) by decide), if_neg (show ¬ nI 14 = (11 : Int32) by decide), if_neg (show ¬ nI 14 = (12 : Int32) by decide), if_neg (show ¬ nI 14 = (13 : Int32) by decide)]
    show _ = iI (if a ≠ 0 ∨ b ≠ 0 then 1 else 0)
    by_cases q : a = 0
    · rw [if_pos q]
      by_cases q2 : b = 0
      · rw [if_pos q2, if_neg (fun z => z.elim (fun y => y q) (fun y => y q2)), j0]
      · rw [if_neg q2, if_pos (Or.inr q2), j1]
    · rw [if_neg q, if_pos (Or.inl q), j1]
theorem c_reckon {op : Nat} (ho : 4 ≤ op ∧ op ≤ 9) {a b : Int} (ha : bnd a) (hb : bnd b) (σ : fhM) : f_X10_reckon (nI op) (iI a) (iI b) σ = some (iI (bop op a b)) := by
  have ha' := ha
  have hb' := hb
  unfold bnd at ha hb
  have hab : -1000000000000 ≤ a * b ∧ a * b ≤ 1000000000000 := by
    have h1 : (a * b).natAbs = a.natAbs * b.natAbs := Int.natAbs_mul a b
    have h2 : a.natAbs * b.natAbs ≤ 1000000 * 1000000 := Nat.mul_le_mul (by omega) (by omega)
    omega
  have lt1 : (iI b < iI a) = (b < a) := iI_ltP (by omega) (by omega) (by omega) (by omega)
  have lt2 : (iI a < iI b) = (a < b) := iI_ltP (by omega) (by omega) (by omega) (by omega)
  have zb : (iI b = 0) = (b = 0) := by rw [iI_0]; exact iI_eqP (by omega) (by omega) (by omega) (by omega)
  unfold f_X10_reckon f_J9_min_7cf53 f_J9_max_7cf53
  rw [iI_l (by omega) (by omega), iI_l (by omega) (by omega), lI_add, lI_sub, lI_mul, c_hold (by omega) (by omega), c_hold (by omega) (by omega), c_hold (by omega) (by omega)]
  simp only [lt1, lt2, zb]
  have : op = 4 ∨ op = 5 ∨ op = 6 ∨ op = 7 ∨ op = 8 ∨ op = 9 := by omega
  rcases this with rfl | rfl | rfl | rfl | rfl | rfl
  · rw [if_pos (show nI 4 = (4 : Int32) from rfl)]; rfl
  · rw [if_neg (show ¬ nI 5 = (4 : Int32) by decide), if_pos (show nI 5 = (5 : Int32) from rfl)]; rfl
  · rw [if_neg (show ¬ nI 6 = (4 : Int32) by decide), if_neg (show ¬ nI 6 = (5 : Int32) by decide), if_pos (show nI 6 = (6 : Int32) from rfl)]; rfl
  · rw [if_neg (show ¬ nI 7 = (4 : Int32) by decide), if_neg (show ¬ nI 7 = (5 : Int32) by decide), if_neg (show ¬ nI 7 = (6 : Int32) by decide), if_pos (show nI 7 = (7 : Int32) from rfl)]
    show _ = some (iI (dvi a b))
    by_cases q : b = 0
    · rw [if_pos q]
      unfold dvi
      rw [if_pos q, iI_0]
    · rw [if_neg q, c_div ha' hb' q]
      rfl
  · rw [if_neg (show ¬ nI 8 = (4 : Int32) by decide), if_neg (show ¬ nI 8 = (5 : Int32) by decide), if_neg (show ¬ nI 8 = (6 : Int32) by decide), if_neg (show ¬ nI 8 = (7 : Int32) by decide), if_pos (show nI 8 = (8 : Int32) from rfl)]
    show _ = some (iI (if b < a then b else a))
    by_cases q : b < a
    · rw [if_pos q, if_pos q]
    · rw [if_neg q, if_neg q]
  · rw [if_neg (show ¬ nI 9 = (4 : Int32) by decide), if_neg (show ¬ nI 9 = (5 : Int32) by decide), if_neg (show ¬ nI 9 = (6 : Int32) by decide), if_neg (show ¬ nI 9 = (7 : Int32) by decide), if_neg (show ¬ nI 9 = (8 : Int32) by decide)]
    show _ = some (iI (if a < b then b else a))
    by_cases q : a < b
    · rw [if_pos q, if_pos q]
    · rw [if_neg q, if_neg q]
