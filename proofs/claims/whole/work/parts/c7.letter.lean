/-! ANSWERS: a letter of a name -/
theorem lN_div {a b : Nat} (ha : a < 2 ^ 31) (hb : b < 2 ^ 31) : lN a / lN b = lN (a / b) := by
  have h1 : a / b ≤ a := Nat.div_le_self a b
  have hm : lN a ≠ Int64.minValue := by
    intro z
    have := lN_toInt ha
    rw [z] at this
    have e : Int64.minValue.toInt = -9223372036854775808 := by decide
    omega
  refine Int64.toInt_inj.mp ?_
  rw [Int64.toInt_div_of_ne_left _ _ hm, lN_toInt ha, lN_toInt hb, lN_toInt (by omega)]
  exact (Int.ofNat_tdiv a b).symm
theorem lN_rem {a b : Nat} (ha : a < 2 ^ 31) (hb : b < 2 ^ 31) : fhreml (lN a) (lN b) = lN (a % b) := by
  have h1 : a / b ≤ a := Nat.div_le_self a b
  have h2 := Nat.div_add_mod a b
  have h3 := Nat.mod_le a b
  have h4 : a / b * b = b * (a / b) := Nat.mul_comm _ _
  unfold fhreml
  rw [lN_div ha hb, ← lI_n ha, ← lI_n hb, ← lI_n (show a / b < 2 ^ 31 by omega), ← lI_n (show a % b < 2 ^ 31 by omega), lI_mul, lI_sub]
  congr 1
  rw [← Int.natCast_mul, h4]
  omega
theorem lN_iA {a : Nat} (ha : a < 2 ^ 31) : (lN a).toInt32 = nI a := by rw [← lI_n ha, lI_i, iI_n ha]
/-- letters of small letters -/
def ltr (l : List Nat) (k : Nat) : Nat := l.getD k 96 - 96
theorem ltr_0 (c : Nat) (r : List Nat) : ltr (c :: r) 0 = c - 96 := rfl
theorem ltr_s (c : Nat) (r : List Nat) (k : Nat) : ltr (c :: r) (k + 1) = ltr r k := rfl
theorem p5_bnd : ∀ {l : List Nat}, (∀ c ∈ l, tS c = 1) → p5 l < 32 ^ l.length := by
  intro l
  induction l with
  | nil => intro _; decide
  | cons c r ih =>
    intro h
    have h1 := ih (fun x hx => h x (List.mem_cons_of_mem _ hx))
    have h2 := tS_let (h c List.mem_cons_self)
    rw [show p5 (c :: r) = (c - 96) + 32 * p5 r from rfl, List.length_cons, Nat.pow_succ]
    omega
theorem p5_dig : ∀ {l : List Nat}, (∀ c ∈ l, tS c = 1) → ∀ k, p5 l / 2 ^ (5 * k) % 32 = ltr l k := by
  intro l
  induction l with
  | nil =>
    intro _ k
    rw [show p5 [] = 0 from rfl, Nat.zero_div]
    rfl
  | cons c r ih =>
    intro h k
    have h2 := tS_let (h c List.mem_cons_self)
    rw [show p5 (c :: r) = (c - 96) + 32 * p5 r from rfl]
    cases k with
    | zero =>
      rw [ltr_0, show 2 ^ (5 * 0) = 1 from rfl, Nat.div_one]
      omega
    | succ k =>
      rw [ltr_s, show 5 * (k + 1) = 5 + 5 * k by omega, Nat.pow_add, ← Nat.div_div_eq_div_mul, show ((c - 96) + 32 * p5 r) / 2 ^ 5 = p5 r by omega]
      exact ih (fun x hx => h x (List.mem_cons_of_mem _ hx)) k
theorem ee_bnd : ∀ {l : List Nat}, (∀ c ∈ l, tS c = 1) → ee l < 27 ^ l.length := by
  intro l
  induction l with
  | nil => intro _; decide
  | cons c r ih =>
    intro h
    have h1 := ih (fun x hx => h x (List.mem_cons_of_mem _ hx))
    have h2 := tS_let (h c List.mem_cons_self)
    rw [show ee (c :: r) = 27 * ee r + (c - 96) from rfl, List.length_cons, Nat.pow_succ]
    omega
theorem ee_drop : ∀ {l : List Nat}, (∀ c ∈ l, tS c = 1) → ∀ j, ee (l.drop j) / 27 = ee (l.drop (j + 1)) := by
  intro l
  induction l with
  | nil => intro _ j; rw [List.drop_nil, List.drop_nil]; rfl
  | cons c r ih =>
    intro h j
    have h2 := tS_let (h c List.mem_cons_self)
    cases j with
    | zero =>
      rw [List.drop_zero, show (c :: r).drop (0 + 1) = r from rfl, show ee (c :: r) = 27 * ee r + (c - 96) from rfl]
      omega
    | succ j => exact ih (fun x hx => h x (List.mem_cons_of_mem _ hx)) j
theorem ee_head {l : List Nat} (h : ∀ c ∈ l, tS c = 1) : ee l % 27 = ltr l 0 := by
  cases l with
  | nil => rfl
  | cons c r =>
    have h2 := tS_let (h c List.mem_cons_self)
    rw [show ee (c :: r) = 27 * ee r + (c - 96) from rfl, ltr_0]
    omega
theorem ee_pos {l : List Nat} (h : ∀ c ∈ l, tS c = 1) (hn : l ≠ []) : 0 < ee l := by
  cases l with
  | nil => exact absurd rfl hn
  | cons c r =>
    have h2 := tS_let (h c List.mem_cons_self)
    rw [show ee (c :: r) = 27 * ee r + (c - 96) from rfl]
    omega
theorem ltr_drop (l : List Nat) (j k : Nat) : ltr (l.drop j) k = ltr l (j + k) := by
  unfold ltr
  rw [List.getD_eq_getElem?_getD, List.getD_eq_getElem?_getD, List.getElem?_drop]
theorem ltr_rev {l : List Nat} {k : Nat} (h : k < l.length) : ltr l.reverse (l.length - 1 - k) = ltr l k := by
  unfold ltr
  rw [List.getD_eq_getElem?_getD, List.getD_eq_getElem?_getD, List.getElem?_reverse (by omega), show l.length - 1 - (l.length - 1 - k) = k by omega]
def nmO (l : List Nat) : Prop := (∀ c ∈ l, tS c = 1) ∧ l.length ≤ 6 ∧ l ≠ []
def letA (nl : List (List Nat)) (v w : Int32) : Int32 := if inB v nl.length then (if inB w 6 then nI (ltr (nl.getD v.toInt.toNat []) w.toInt.toNat) else -1) else -1
theorem getD_som {nl : List (List Nat)} {k : Nat} (h : k < nl.length) : nl[k]? = some (nl.getD k []) := by
  rw [List.getD_eq_getElem?_getD, List.getElem?_eq_getElem h]
  rfl
theorem c_letter {nl : List (List Nat)} (hnl : nl.length ≤ 5) (hn : ∀ l ∈ nl, nmO l) {σ : fhM} (h9 : σ.1 39 9 = nI nl.length) (hP : fhiP (σ.2.2 0 6) = true) (h : ∀ k l, nl[k]? = some l → σ.1 (σ.2.2 0 6 + 11) k = nI (p5 l)) (v w : Int32) : f_X11_letter v w σ = some (letA nl v w) := by
  unfold f_X11_letter letA
  by_cases q : inB v nl.length
  · obtain ⟨e, a⟩ := inB_e q
    rw [if_pos (by rw [c_isG v (by omega) h9]; exact q), if_pos q]
    by_cases q2 : w.toInt < 0
    · rw [if_pos (by rw [lt0_P]; exact q2), if_neg (fun z => by have := z.1; omega)]
    · rw [if_neg (by rw [lt0_P]; exact q2)]
      by_cases q3 : w.toInt < 6
      · have hw : inB w 6 := ⟨by omega, q3⟩
        obtain ⟨e2, a2⟩ := inB_e hw
        rw [if_pos (by rw [show (6 : Int32) = nI 6 from rfl, lt_nP w (by decide)]; exact q3), if_pos hw, if_pos hP]
        generalize v.toInt.toNat = i at e a
        generalize w.toInt.toNat = k at e2 a2
        have hs := getD_som a
        have hl := hn _ (List.mem_of_getElem? hs)
        obtain ⟨l1, l2, l3⟩ := hl
        have hb := p5_bnd l1
        have hb2 : 32 ^ (nl.getD i []).length ≤ 32 ^ 6 := Nat.pow_le_pow_right (by decide) l2
        rw [e, e2, fcG_at (fcL_P hP) (show i < 5 by omega) (by omega), h i _ hs, show (5 : Int32) = nI 5 from rfl, pk_mul, ph_shr (by omega) (by omega), show (31 : Int32) = nI 31 from rfl, ph_and, show (31 : Nat) = 2 ^ 5 - 1 from rfl, Nat.and_two_pow_sub_one_eq_mod, show (2 : Nat) ^ 5 = 32 from rfl, p5_dig l1]
      · rw [if_neg (by rw [show (6 : Int32) = nI 6 from rfl, lt_nP w (by decide)]; exact q3), if_neg (fun z => q3 z.2)]
  · rw [if_neg (by rw [c_isG v (by omega) h9]; exact q), if_neg q]
theorem m_letter {nl : List (List Nat)} (hnl : nl.length ≤ 5) (hn : ∀ l ∈ nl, nmO l) {σ : fhM} (h6 : σ.1 29 6 = nI nl.length) (h : ∀ k l, nl[k]? = some l → σ.2.1 30 (5 + k) = lN (e27 l)) (v w : Int32) : f_X12_letter v w σ = some (letA nl v w) := by
  refine wq_eq ?_
  unfold f_X12_letter letA
  by_cases q : inB v nl.length
  · obtain ⟨e, a⟩ := inB_e q
    rw [if_pos (by rw [m_isG v (by omega) h6]; exact q), if_pos q]
    by_cases q3 : inB w 6
    · obtain ⟨e2, a2⟩ := inB_e q3
      rw [if_pos (by rw [lI_0, show (5 : Int64) = lI 5 by decide +kernel, m_inI w (by omega) (by omega) (by omega) (by omega)]; have := q3.1; have := q3.2; omega), if_pos q3]
      generalize v.toInt.toNat = i at e a
      generalize w.toInt.toNat = k at e2 a2
      have hs := getD_som a
      have hl := hn _ (List.mem_of_getElem? hs)
      obtain ⟨l1, l2, l3⟩ := hl
      generalize nl.getD i [] = l at hs l1 l2 l3
      have r1 : ∀ c ∈ l.reverse, tS c = 1 := fun c hc => l1 c (List.mem_reverse.mp hc)
      have r2 : l.reverse.length = l.length := List.length_reverse
      have dr : ∀ j, ∀ c ∈ l.reverse.drop j, tS c = 1 := fun j c hc => r1 c (List.mem_of_mem_drop hc)
      have hb : ∀ j, ee (l.reverse.drop j) < 2 ^ 31 := fun j => by
        have h1 := ee_bnd (dr j)
        have h2 : 27 ^ (l.reverse.drop j).length ≤ 27 ^ 6 := Nat.pow_le_pow_right (by decide) (by rw [List.length_drop]; omega)
        omega
      rw [e, e2, show (5 : Int32) = nI 5 from rfl, nI_add, if_pos (ph_in1 (by omega) (by omega)), ph_ix (by omega), h i l hs]
      refine wq_for (R := fun j x => x = (nI j, lN (ee (l.reverse.drop j)))) 0 l.length (Nat.zero_le _) ?_ ?_ ?_
      · rintro j x - hj rfl
        (try dsimp only)
        unfold f_X12_letter_38
        have hp := ee_pos (dr j) (fun z => by have := congrArg List.length z; rw [List.length_drop, List.length_nil] at this; omega)
        rw [if_neg (by rw [lI_0, lg_cmp_le, ← lI_n (hb j), lI_leP (by have := hb j; omega) (by have := hb j; omega) (by omega) (by omega)]; omega), show (27 : Int64) = lN 27 from rfl, lN_div (hb j) (by decide), ee_drop r1, nI_1, wq_some, fhK_l]
      · rintro x rfl
        (try dsimp only)
        unfold f_X12_letter_38
        rw [show l.reverse.drop l.length = [] from List.drop_eq_nil_of_le (by omega), if_pos (by rw [show ee [] = 0 from rfl]; decide +kernel)]
        by_cases q4 : k < l.length
        · rw [if_pos (nI_lt q4 (by omega)), show (1 : Int32) = nI 1 from rfl, pk_sub (by omega), wq_map]
          refine wq_for (R := fun j x => x = (lN (ee (l.reverse.drop j)), nI (l.length - 1 - j))) 0 (l.length - 1 - k) (Nat.zero_le _) ?_ ?_ ?_
          · rintro j x - hj rfl
            (try dsimp only)
            unfold f_X12_letter_73
            rw [if_neg (nI_ge (by omega) (by omega)), show (27 : Int64) = lN 27 from rfl, lN_div (hb j) (by decide), ee_drop r1, nI_decm (by omega), show l.length - 1 - j - 1 = l.length - 1 - (j + 1) by omega, wq_some, fhK_l]
          · rintro x rfl
            (try dsimp only)
            unfold f_X12_letter_73
            rw [if_pos (nI_le (by omega) (by omega)), show (27 : Int64) = lN 27 from rfl, lN_rem (hb _) (by decide), lN_iA (by have := Nat.mod_lt (ee (l.reverse.drop (l.length - 1 - k))) (show 0 < 27 by decide); omega), ee_head (dr _), ltr_drop, Nat.add_zero, ltr_rev q4, wq_some, fhK_r, fhK_r]
          · rfl
        · rw [if_neg (nI_nlt (by omega) (by omega)), wq_some, fhK_r]
          unfold ltr
          rw [List.getD_eq_getElem?_getD, List.getElem?_eq_none (by omega)]
          rfl
      · rfl
    · rw [if_neg (by rw [lI_0, show (5 : Int64) = lI 5 by decide +kernel, m_inI w (by omega) (by omega) (by omega) (by omega)]; exact fun z => q3 ⟨z.1, by have := z.2; omega⟩), if_neg q3, wq_some]
  · rw [if_neg (by rw [m_isG v (by omega) h6]; exact q), if_neg q, wq_some]
