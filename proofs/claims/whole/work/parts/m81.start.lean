/-! THE START: what the constructors made is valid -/
def A00 : aS := ((fun _ => 0, 0), none, g00, [], (fun _ => 0, 0), fun _ => 0, (0, -1), 1, (0, fun _ => 0))
theorem gz_no {w : List gE} {t : Nat} (h : w.length ≤ t) (j : Nat) : (gmem w).1 t j = 0 := by
  show gmI w[t]? j = 0
  rw [List.getElem?_eq_none h]
  rfl
theorem gz_fs {w : List gE} {t x n : Nat} {fs : List Value} {ws : List (Nat × Int32)} (hw : w[t]? = some (0, x, n, fs, ws)) {j : Nat} (h : fs.length ≤ j) : (gmem w).1 t j = 0 := by
  show gmI w[t]? j = 0
  rw [hw]
  show (match fs[j]? with | some (.int v) => v | _ => 0) = 0
  rw [List.getElem?_eq_none h]
def gfl0 (w : List gE) : List Value := match w with
  | (_, _, _, fs, _) :: _ => fs
  | [] => []
def gnb (l : List Nat) (j : Nat) : Bool := l.any (Nat.beq j)
theorem gz_all {w : List gE} {n : Nat} {ex : List Nat} (hn : w.length = n) (h0 : ∃ x m fs ws, w[0]? = some (0, x, m, fs, ws) ∧ fs.length = 110 ∨ w[0]? = some (0, x, m, fs, ws) ∧ fs.length = 19) (ha : (List.range n).all (fun t => Nat.beq t 0 || (gnb [3, 4, 5, 6, 7, 8, 9, 10, 11, 12, 13, 14, 15, 16, 17, 18, 19, 20, 21, 22, 23, 24, 25, 26, 27, 28, 52, 53, 54, 55, 56, 57, 58, 59, 60, 61, 62, 63, 64, 65, 66, 67, 68, 69, 70, 71, 72, 73, 74, 75] t || gzr w t)) = true) (hb : (List.range 110).all (fun j => gnb ex j || decide ((gmem w).1 0 j = 0)) = true) (t j : Nat) (h1 : ¬ (3 ≤ t ∧ t ≤ 28) ∧ ¬ (52 ≤ t ∧ t ≤ 75)) (h2 : t = 0 → j ∉ ex) : (gmem w).1 t j = 0 := by
  by_cases ht : t < n
  · have := List.all_eq_true.mp ha t (List.mem_range.mpr ht)
    rw [Bool.or_eq_true, Bool.or_eq_true] at this
    rcases this with q | q | q
    · have q := Nat.eq_of_beq_eq_true q
      subst q
      by_cases hj : j < 110
      · have := List.all_eq_true.mp hb j (List.mem_range.mpr hj)
        rw [Bool.or_eq_true] at this
        rcases this with q | q
        · obtain ⟨a, ha1, ha2⟩ := List.any_eq_true.mp q
          have ha2 := Nat.eq_of_beq_eq_true ha2
          subst ha2
          exact absurd ha1 (h2 rfl)
        · exact of_decide_eq_true q
      · obtain ⟨x, m, fs, ws, hw | hw⟩ := h0
        · exact gz_fs hw.1 (by omega)
        · exact gz_fs hw.1 (by omega)
    · obtain ⟨a, ha1, ha2⟩ := List.any_eq_true.mp q
      have ha2 := Nat.eq_of_beq_eq_true ha2
      subst ha2
      simp only [List.mem_cons, List.not_mem_nil, or_false] at ha1
      omega
    · exact gzr_ok q j
  · exact gz_no (by omega) j
set_option maxRecDepth 100000 in
theorem zF : ∀ t j, (t = 0 → j ≠ 16 ∧ j ≠ 18) → (gmem gwF).1 t j = 0 := fun t j h => by
  have ha : (List.range 102).all (fun t => Nat.beq t 0 || gzr gwF t) = true := by decide +kernel
  have hb : (List.range 19).all (fun j => gnb [16, 18] j || decide ((gmem gwF).1 0 j = 0)) = true := by decide +kernel
  have hn : gwF.length = 102 := by decide +kernel
  by_cases ht : t < 102
  · have := List.all_eq_true.mp ha t (List.mem_range.mpr ht)
    rw [Bool.or_eq_true] at this
    rcases this with q | q
    · have q := Nat.eq_of_beq_eq_true q
      subst q
      by_cases hj : j < 19
      · have := List.all_eq_true.mp hb j (List.mem_range.mpr hj)
        rw [Bool.or_eq_true] at this
        rcases this with q | q
        · obtain ⟨a, ha1, ha2⟩ := List.any_eq_true.mp q
          have ha2 := Nat.eq_of_beq_eq_true ha2
          subst ha2
          have := h rfl
          simp only [List.mem_cons, List.not_mem_nil, or_false] at ha1
          omega
        · exact of_decide_eq_true q
      · exact gz_fs (w := gwF) (x := 11) (n := 19) (fs := gfl0 gwF) (ws := []) rfl (by rw [show (gfl0 gwF).length = 19 from rfl]; omega)
    · exact gzr_ok q j
  · exact gz_no (by omega) j
set_option maxRecDepth 100000 in
theorem zM : ∀ t j, ¬ (3 ≤ t ∧ t ≤ 28) ∧ ¬ (52 ≤ t ∧ t ≤ 75) → (t = 0 → j ≠ 8) → (gmem gwM).1 t j = 0 := fun t j h1 h2 => gz_all (w := gwM) (n := 80) (ex := [8]) (by decide +kernel) ⟨12, 110, gfl0 gwM, [], Or.inl ⟨rfl, rfl⟩⟩ (by decide +kernel) (by decide +kernel) t j h1 (fun h => by
  have := h2 h
  simp only [List.mem_cons, List.not_mem_nil, or_false]
  exact this)
theorem AV_0 : AV 0 A00 := by
  refine ⟨⟨Nat.zero_le _, fun i => ?_⟩, ⟨rfl, rfl⟩, trivial, Nat.zero_le _, Nat.zero_le _, ⟨rfl, (show 0 / 3 ≤ 16 by decide), fun j (hj : j < 0 / 3) => absurd hj (by omega), fun i => ?_⟩, (show 1 < 2147483648 by decide), Nat.zero_le _⟩
  · show (0 : Nat) < 256
    decide
  · show (0 : Nat) < 256
    decide
set_option maxRecDepth 100000 in
theorem CS_0 : CS A00 (gmem gwF) := by
  have z : ∀ t j, (t = 0 → j ≠ 16 ∧ j ≠ 18) → (gmem gwF).1 t j = 0 := zF
  have r6 : (gmem gwF).2.2 0 6 = 15 := by decide +kernel
  have r7 : (gmem gwF).2.2 0 7 = 27 := by decide +kernel
  have nr : ∀ (L : Nat → Bool) r, ¬ r ∈ rl 0 L := fun L r h => absurd (rl_mem.mp h).1 (Nat.not_lt_zero _)
  refine ⟨⟨Or.inl ⟨r6, r7⟩, ⟨z _ _ (by decide), ?_, ?_, z _ _ (by decide)⟩, ⟨⟨z _ _ (by decide), z _ _ (by decide), z _ _ (by decide), z _ _ (by decide), z _ _ (by decide), fun k (hk : k < 0) => absurd hk (Nat.not_lt_zero _), fun k (hk : k < 0) => absurd hk (Nat.not_lt_zero _), fun r i (hr : r < 0) => absurd hr (Nat.not_lt_zero _), fun r i (hr : r < 0) => absurd hr (Nat.not_lt_zero _), fun r hr => ?_, fun r (hr : r < 0) => absurd hr (Nat.not_lt_zero _), fun k (hk : k < 0) => absurd hk (Nat.not_lt_zero _)⟩, fun j hj => z _ _ (by omega), ⟨z _ _ (by decide), z _ _ (by decide), z _ _ (by decide), fun k (hk : k < 0) => absurd hk (Nat.not_lt_zero _), fun r hr => absurd hr (nr _ r)⟩, ⟨z _ _ (by decide), fun k e h => ?_⟩, 0, z _ _ (by decide), by decide, z _ _ (by decide), by decide, fun k G h => ?_⟩, Or.inl (z _ _ (by decide)), ⟨77, 79, 81, 83, Or.inl ⟨rfl, rfl⟩, Or.inl ⟨rfl, rfl⟩, by decide +kernel, by decide +kernel, by decide +kernel, by decide +kernel⟩, Or.inl (z _ _ (by decide))⟩, ⟨z _ _ (by decide), fun j (hj : j < 0) => absurd hj (Nat.not_lt_zero _)⟩, ⟨z _ _ (by decide), fun k (hk : k < 0) => absurd hk (Nat.not_lt_zero _)⟩, fun k hk => z _ _ (by omega), ⟨z _ _ (by decide), by decide +kernel⟩, by decide +kernel, z _ _ (by decide), fun j (hj : j < 0) => absurd hj (Nat.not_lt_zero _)⟩
  · show (gmem gwF).1 ((gmem gwF).2.2 0 6) 9 = 0
    rw [r6]
    exact z _ _ (by decide)
  · show (gmem gwF).1 ((gmem gwF).2.2 0 6) 11 = 0
    rw [r6]
    exact z _ _ (by decide)
  · rw [if_neg (fun q => absurd q.1 (Nat.not_lt_zero _))]
    exact z _ _ (by omega)
  · have h : ([] : List kE)[k]? = some e := h
    rw [List.getElem?_nil] at h
    cases h
  · have h : ([] : List gG)[k]? = some G := h
    rw [List.getElem?_nil] at h
    cases h
set_option maxRecDepth 100000 in
theorem MS_0 : MS A00 (gmem gwM) := by
  have z : ∀ t j, ¬ (3 ≤ t ∧ t ≤ 28) ∧ ¬ (52 ≤ t ∧ t ≤ 75) → (t = 0 → j ≠ 8) → (gmem gwM).1 t j = 0 := zM
  have hw : (List.range 80).all (fun v => (List.range (wd v).length).all (fun i => decide ((gmem gwM).1 v i = nI ((wd v).getD i 0)))) = true := by decide +kernel
  refine ⟨⟨fun v i hi => ?_, ⟨z _ _ (by decide) (by decide), z _ _ (by decide) (by decide)⟩, ⟨⟨⟨z _ _ (by decide) (by decide), z _ _ (by decide) (by decide), z _ _ (by decide) (by decide), fun r i (hr : r < 0) => absurd hr (Nat.not_lt_zero _)⟩, z _ _ (by decide) (by decide), fun r (hr : r < 0) => absurd hr (Nat.not_lt_zero _), fun r (hr : r < 0) => absurd hr (Nat.not_lt_zero _), fun i (hi : i < 0) => absurd hi (Nat.not_lt_zero _), z _ _ (by decide) (by decide)⟩, ⟨z _ _ (by decide) (by decide), z _ _ (by decide) (by decide), fun r hr => z _ _ (by omega) (by omega), z _ _ (by decide) (by decide), fun k e h => ?_⟩, ⟨0, z _ _ (by decide) (by decide), by decide, z _ _ (by decide) (by decide), by decide, fun k G h => ?_⟩, z _ _ (by decide) (by decide)⟩, fun n r hn h => by cases h⟩, ⟨z _ _ (by decide) (by decide), fun i (hi : i < 0) => absurd hi (Nat.not_lt_zero _)⟩, ⟨z _ _ (by decide) (by decide), fun k (hk : k < 0) => absurd hk (Nat.not_lt_zero _)⟩, fun k hk => z _ _ (by omega) (by omega), ⟨z _ _ (by decide) (by decide), by decide +kernel⟩, by decide +kernel, z _ _ (by decide) (by decide), fun j (hj : j < 0) => absurd hj (Nat.not_lt_zero _)⟩
  · by_cases hv : v < 80
    · have := List.all_eq_true.mp hw v (List.mem_range.mpr hv)
      exact of_decide_eq_true (List.all_eq_true.mp this i (List.mem_range.mpr hi))
    · obtain ⟨k, rfl⟩ : ∃ k, v = k + 80 := ⟨v - 80, by omega⟩
      exact absurd hi (Nat.not_lt_zero _)
  · have h : ([] : List kE)[k]? = some e := h
    rw [List.getElem?_nil] at h
    cases h
  · have h : ([] : List gG)[k]? = some G := h
    rw [List.getElem?_nil] at h
    cases h
