/-! TEXTS: bytes b 0 .. b (n - 1); their tokens by numbers; kind: 0 the end, 1 word, 2 number, 3 sign, 4 a word or number too near -/
def tB (c : Nat) : Bool := c == 10 || c == 32
def tS (c : Nat) : Nat := if 97 ≤ c ∧ c ≤ 122 then 1 else if 48 ≤ c ∧ c ≤ 57 then 2 else 3
def tW (p : Nat → Bool) : Nat → Nat → Nat
  | 0, i => i
  | m + 1, i => bif p i then tW p m (i + 1) else i
/-- the first place from i on where p is not so, n at most -/
def fw (p : Nat → Bool) (n i : Nat) : Nat := tW p (n - i) i
theorem fw_t {p : Nat → Bool} {n i : Nat} (h : i < n) (hp : p i = true) : fw p n i = fw p n (i + 1) := by
  unfold fw
  obtain ⟨m, hm⟩ : ∃ m, n - i = m + 1 := ⟨n - i - 1, by omega⟩
  rw [hm, show n - (i + 1) = m by omega]
  show (bif p i then tW p m (i + 1) else i) = _
  rw [hp]
  rfl
theorem fw_f {p : Nat → Bool} {n i : Nat} (hp : p i = false) : fw p n i = i := by
  unfold fw
  cases hm : n - i with
  | zero => rfl
  | succ m =>
    show (bif p i then tW p m (i + 1) else i) = _
    rw [hp]
    rfl
theorem fw_n {p : Nat → Bool} {n i : Nat} (h : n ≤ i) : fw p n i = i := by
  unfold fw
  rw [show n - i = 0 by omega]
  rfl
theorem fw_all {p : Nat → Bool} {n : Nat} : ∀ i, i ≤ n → i ≤ fw p n i ∧ fw p n i ≤ n ∧ (∀ j, i ≤ j → j < fw p n i → p j = true) ∧ (fw p n i < n → p (fw p n i) = false) := by
  have key : ∀ m i, n - i = m → i ≤ n → i ≤ fw p n i ∧ fw p n i ≤ n ∧ (∀ j, i ≤ j → j < fw p n i → p j = true) ∧ (fw p n i < n → p (fw p n i) = false) := by
    intro m
    induction m with
    | zero =>
      intro i hm hi
      rw [fw_n (by omega)]
      exact ⟨Nat.le_refl _, hi, fun j h1 h2 => by omega, fun h => by omega⟩
    | succ m ih =>
      intro i hm hi
      cases hp : p i with
      | false =>
        rw [fw_f hp]
        exact ⟨Nat.le_refl _, hi, fun j h1 h2 => by omega, fun _ => hp⟩
      | true =>
        rw [fw_t (by omega) hp]
        obtain ⟨a, b, c, d⟩ := ih (i + 1) (by omega) (by omega)
        refine ⟨by omega, b, fun j h1 h2 => ?_, d⟩
        rcases Nat.eq_or_lt_of_le h1 with e | h3
        · rw [← e]; exact hp
        · exact c j h3 h2
  exact fun i hi => key (n - i) i rfl hi
theorem fw_ge {p : Nat → Bool} {n i : Nat} (hi : i ≤ n) : i ≤ fw p n i := (fw_all i hi).1
theorem fw_le {p : Nat → Bool} {n i : Nat} (hi : i ≤ n) : fw p n i ≤ n := (fw_all i hi).2.1
theorem fw_in {p : Nat → Bool} {n i j : Nat} (hi : i ≤ n) (h1 : i ≤ j) (h2 : j < fw p n i) : p j = true := (fw_all i hi).2.2.1 j h1 h2
theorem fw_at {p : Nat → Bool} {n i : Nat} (hi : i ≤ n) (h : fw p n i < n) : p (fw p n i) = false := (fw_all i hi).2.2.2 h
/-- from a place on the way the same end is found -/
theorem fw_mid {p : Nat → Bool} {n i j : Nat} (hi : i ≤ n) (h1 : i ≤ j) (h2 : j ≤ fw p n i) : fw p n j = fw p n i := by
  have key : ∀ m i, j - i = m → i ≤ n → i ≤ j → j ≤ fw p n i → fw p n j = fw p n i := by
    intro m
    induction m with
    | zero => intro i hm _ h1 _; rw [show j = i by omega]
    | succ m ih =>
      intro i hm hi h1 h2
      have hp : p i = true := fw_in hi (Nat.le_refl _) (by omega)
      have hl := fw_le (p := p) hi
      have e := fw_t (p := p) (n := n) (i := i) (by omega) hp
      rw [e] at h2 ⊢
      exact ih (i + 1) (by omega) (by omega) (by omega) h2
  exact key (j - i) i rfl hi h1 h2
abbrev tT : Type := (Nat → Nat) × Nat
def skp (T : tT) (i : Nat) : Nat := fw (fun j => tB (T.1 j)) T.2 i
def rn (T : tT) (s i : Nat) : Nat := fw (fun j => tS (T.1 j) == s) T.2 i
/-- of a place p behind the last token, and whether that was no sign: the next token's kind, its end -/
def tkd (T : tT) (s : Nat × Bool) : Nat := if T.2 ≤ skp T s.1 then 0 else if tS (T.1 (skp T s.1)) ≠ 3 ∧ s.2 = true ∧ skp T s.1 = s.1 then 4 else tS (T.1 (skp T s.1))
def tto (T : tT) (s : Nat × Bool) : Nat := if T.2 ≤ skp T s.1 then T.2 else if tS (T.1 (skp T s.1)) = 3 then skp T s.1 + 1 else rn T (tS (T.1 (skp T s.1))) (skp T s.1 + 1)
def tnx (T : tT) (s : Nat × Bool) : Nat × Bool := (tto T s, !(tkd T s == 3))
def ts (T : tT) : Nat → Nat × Bool
  | 0 => (0, false)
  | k + 1 => tnx T (ts T k)
def fm (T : tT) (k : Nat) : Nat := skp T (ts T k).1
def kd (T : tT) (k : Nat) : Nat := tkd T (ts T k)
def to (T : tT) (k : Nat) : Nat := tto T (ts T k)
theorem tS_123 (c : Nat) : tS c = 1 ∨ tS c = 2 ∨ tS c = 3 := by
  unfold tS
  split
  · exact Or.inl rfl
  · split
    · exact Or.inr (Or.inl rfl)
    · exact Or.inr (Or.inr rfl)
theorem skp_le {T : tT} {i : Nat} (h : i ≤ T.2) : skp T i ≤ T.2 := fw_le h
theorem skp_ge {T : tT} {i : Nat} (h : i ≤ T.2) : i ≤ skp T i := fw_ge h
theorem rn_le {T : tT} {s i : Nat} (h : i ≤ T.2) : rn T s i ≤ T.2 := fw_le h
theorem rn_ge {T : tT} {s i : Nat} (h : i ≤ T.2) : i ≤ rn T s i := fw_ge h
theorem tto_le {T : tT} {s : Nat × Bool} (h : s.1 ≤ T.2) : tto T s ≤ T.2 := by
  unfold tto
  have := skp_le h
  split
  · exact Nat.le_refl _
  · split
    · omega
    · exact rn_le (by omega)
theorem ts_le (T : tT) (k : Nat) : (ts T k).1 ≤ T.2 := by
  induction k with
  | zero => exact Nat.zero_le _
  | succ k ih => exact tto_le ih
theorem fm_le (T : tT) (k : Nat) : fm T k ≤ T.2 := skp_le (ts_le T k)
theorem fm_ge (T : tT) (k : Nat) : (ts T k).1 ≤ fm T k := skp_ge (ts_le T k)
theorem to_le (T : tT) (k : Nat) : to T k ≤ T.2 := tto_le (ts_le T k)
theorem ts_s (T : tT) (k : Nat) : ts T (k + 1) = (to T k, !(kd T k == 3)) := rfl
theorem kd_0 {T : tT} {k : Nat} : kd T k = 0 ↔ fm T k = T.2 := by
  have h1 : skp T (ts T k).1 ≤ T.2 := fm_le T k
  show tkd T (ts T k) = 0 ↔ skp T (ts T k).1 = T.2
  unfold tkd
  generalize skp T (ts T k).1 = a at h1 ⊢
  by_cases q : T.2 ≤ a
  · rw [if_pos q]
    exact ⟨fun _ => by omega, fun _ => rfl⟩
  · rw [if_neg q]
    refine ⟨fun h => ?_, fun h => by omega⟩
    exfalso
    by_cases q2 : tS (T.1 a) ≠ 3 ∧ (ts T k).2 = true ∧ a = (ts T k).1
    · rw [if_pos q2] at h
      cases h
    · rw [if_neg q2] at h
      rcases tS_123 (T.1 a) with e | e | e <;> omega
theorem to_0 {T : tT} {k : Nat} (h : kd T k = 0) : to T k = T.2 := by
  unfold to tto
  have := kd_0.mp h
  unfold fm at this
  rw [if_pos (by omega)]
theorem kd_pos {T : tT} {k : Nat} (h : kd T k ≠ 0) : fm T k < T.2 := by
  have h1 := fm_le T k
  rcases Nat.lt_or_ge (fm T k) T.2 with q | q
  · exact q
  · exact absurd (kd_0.mpr (by omega)) h
/-- what a token is, where one is -/
theorem kd_is {T : tT} {k : Nat} (h : kd T k ≠ 0) : kd T k = (if tS (T.1 (fm T k)) ≠ 3 ∧ (ts T k).2 = true ∧ fm T k = (ts T k).1 then 4 else tS (T.1 (fm T k))) ∧ to T k = (if tS (T.1 (fm T k)) = 3 then fm T k + 1 else rn T (tS (T.1 (fm T k))) (fm T k + 1)) := by
  have h1 := kd_pos h
  unfold kd tkd to tto
  have h2 : ¬ T.2 ≤ skp T (ts T k).1 := by unfold fm at h1; omega
  rw [if_neg h2, if_neg h2]
  exact ⟨rfl, rfl⟩
theorem to_gt {T : tT} {k : Nat} (h : kd T k ≠ 0) : fm T k < to T k := by
  have h1 := kd_pos h
  rw [(kd_is h).2]
  split
  · omega
  · exact rn_ge (by omega)
theorem fm_nb {T : tT} {k : Nat} (h : kd T k ≠ 0) : tB (T.1 (fm T k)) = false := fw_at (p := fun j => tB (T.1 j)) (ts_le T k) (kd_pos h)
theorem fm_s (T : tT) (k : Nat) : to T k ≤ fm T (k + 1) := fm_ge T (k + 1)
theorem kd_0s {T : tT} {k : Nat} (h : kd T k = 0) : kd T (k + 1) = 0 := by
  rw [kd_0]
  have h1 := to_0 h
  have h2 := fm_s T k
  have h3 := fm_le T (k + 1)
  omega
theorem kd_lt {T : tT} {k : Nat} (h : kd T (k + 1) ≠ 0) : kd T k ≠ 0 := fun q => h (kd_0s q)
/-- so many bytes at least lie ahead of a token -/
theorem ts_ge {T : tT} {k : Nat} (h : kd T k ≠ 0) : k ≤ (ts T k).1 := by
  induction k with
  | zero => exact Nat.zero_le _
  | succ k ih =>
    have h1 := kd_lt h
    have h2 := ih h1
    have h3 := fm_ge T k
    have h4 := to_gt h1
    show k + 1 ≤ to T k
    omega
theorem kd_num {T : tT} {k : Nat} (h : kd T k ≠ 0) : k < T.2 := by
  have h1 := ts_ge h
  have h2 := fm_ge T k
  have h3 := kd_pos h
  omega
/-- there is an end, and all tokens lie ahead of it -/
theorem kd_end (T : tT) : ∃ m, m ≤ T.2 ∧ kd T m = 0 ∧ ∀ k, k < m → kd T k ≠ 0 := by
  have key : ∀ m, (∀ k, k < m → kd T k ≠ 0) ∨ ∃ q, q < m ∧ kd T q = 0 ∧ ∀ k, k < q → kd T k ≠ 0 := by
    intro m
    induction m with
    | zero => exact Or.inl (fun k h => by omega)
    | succ m ih =>
      rcases ih with h | ⟨q, h1, h2, h3⟩
      · by_cases e : kd T m = 0
        · exact Or.inr ⟨m, by omega, e, h⟩
        · refine Or.inl (fun k hk => ?_)
          rcases Nat.lt_succ_iff_lt_or_eq.mp hk with q | q
          · exact h k q
          · rw [q]; exact e
      · exact Or.inr ⟨q, by omega, h2, h3⟩
  rcases key (T.2 + 1) with h | ⟨q, h1, h2, h3⟩
  · exact absurd (kd_num (h T.2 (by omega))) (by omega)
  · exact ⟨q, by omega, h2, h3⟩
/-- the bytes of a token -/
def lt (T : tT) (k : Nat) : List Nat := (List.range (to T k - fm T k)).map (fun i => T.1 (fm T k + i))
theorem lt_len (T : tT) (k : Nat) : (lt T k).length = to T k - fm T k := by unfold lt; rw [List.length_map, List.length_range]
theorem lt_at {T : tT} {k i : Nat} (h : i < to T k - fm T k) : (lt T k)[i]? = some (T.1 (fm T k + i)) := by
  unfold lt
  rw [List.getElem?_map, List.getElem?_range h]
  rfl
/-- within a word or number all bytes are of its sort -/
theorem lt_sort {T : tT} {k i : Nat} (h : kd T k ≠ 0) (hs : tS (T.1 (fm T k)) ≠ 3) (h1 : fm T k ≤ i) (h2 : i < to T k) : tS (T.1 i) = tS (T.1 (fm T k)) := by
  rw [(kd_is h).2, if_neg hs] at h2
  rcases Nat.eq_or_lt_of_le h1 with e | h3
  · rw [← e]
  · have := fw_in (p := fun j => tS (T.1 j) == tS (T.1 (fm T k))) (kd_pos h) h3 h2
    exact eq_of_beq this
theorem to_sort {T : tT} {k : Nat} (h : kd T k ≠ 0) (hs : tS (T.1 (fm T k)) ≠ 3) (h2 : to T k < T.2) : tS (T.1 (to T k)) ≠ tS (T.1 (fm T k)) := by
  rw [(kd_is h).2, if_neg hs] at h2 ⊢
  have := fw_at (p := fun j => tS (T.1 j) == tS (T.1 (fm T k))) (kd_pos h) h2
  exact ne_of_beq_false this
theorem kd_13 {T : tT} {k : Nat} (h : kd T k = 1 ∨ kd T k = 2 ∨ kd T k = 3) : kd T k = tS (T.1 (fm T k)) := by
  have h0 : kd T k ≠ 0 := by omega
  have e := (kd_is h0).1
  split at e
  · omega
  · exact e
/-- a word or a number is near, if the last token was none of signs and ended here -/
theorem kd_near {T : tT} {k : Nat} (h : kd T k = 1 ∨ kd T k = 2) : ¬ ((ts T k).2 = true ∧ fm T k = (ts T k).1) := by
  have h0 : kd T k ≠ 0 := by omega
  have e := (kd_is h0).1
  have e2 := kd_13 (T := T) (k := k) (by omega)
  intro q
  rw [if_pos ⟨by omega, q⟩] at e
  omega
