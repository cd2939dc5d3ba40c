/-! THE ABSTRACT MACHINE: places instead of addresses, a memory of ints, longs and references, a layout; blocks of straight code are run by a function. -/
/-- the tables' words that stay as they are -/
def fhtbl : List Cond := lw_tbl.filter goodWord
theorem fhm {w : Cond} (h : w ∈ lw_tbl) (g : goodWord w = true) : w ∈ fhtbl := List.mem_filter.mpr ⟨h, g⟩
/-- a place as a value; 0 is null -/
def fhnv : Nat → Value
  | 0 => .null
  | n + 1 => .ref (n + 1)
/-- an abstract value as the machine's: places lie from b on -/
def fhcv (b : Nat) : Value → Value
  | .ref k => .ref (b + k)
  | v => v
def fhcl (b : Nat) (l : List (Nat × Value)) : List (Nat × Value) := l.map (fun q => (q.1, fhcv b q.2))
def fhcs (b : Nat) (st : List Value) : List Value := st.map (fhcv b)
theorem fhcv_cat (b : Nat) (v : Value) : (fhcv b v).category = v.category := by cases v <;> rfl
/-- what a field holds -/
def fhfv (Y : fhY) (σ : fhM) (t x j : Nat) : Value := match Y.2.1 x j with
  | (0, _) => .int (σ.1 t j)
  | (1, _) => .long (σ.2.1 t j)
  | (2, p) => .ref p
  | (3, n) => .ref (t + n)
  | (4, _) => .ref (σ.2.2 t j)
  | (5, _) => fhnv (σ.2.2 t j)
  | (_, _) => .int (σ.1 t j)
def fharr (σ : fhM) (t x : Nat) : (Nat → Int32) ⊕ (Nat → Int64) ⊕ (Nat → UInt32) ⊕ (Nat → UInt64) ⊕ (Nat → Option Nat) := match x with
  | 3 => .inr (.inl (σ.2.1 t))
  | _ => .inl (σ.1 t)
def fhent (Y : fhY) (b : Nat) (cA : Nat → ClassId) (σ : fhM) (t : Nat) : va_E := match Y.1 t with
  | (0, x, n) => .inr (x, (List.range n).map (fun j => fhcv b (fhfv Y σ t x j)))
  | (_, x, n) => .inl (cA x, n, fharr σ t x)
def fhws (Y : fhY) (b : Nat) (cA : Nat → ClassId) (σ : fhM) : va_W := (List.range Y.2.2).map (fun t => (b + t, fhent Y b cA σ t))
def fhtys (cA : Nat → ClassId) : List (ClassId × FieldType) := [(cA 0, .int), (cA 1, .char), (cA 2, .boolean), (cA 3, .long)]
def fhA (b N : Nat) : Nat → Prop := fun q => b ≤ q ∧ q < b + N
theorem fhws_at {Y : fhY} {b : Nat} {cA : Nat → ClassId} {σ : fhM} {t : Nat} (h : t < Y.2.2) : (fhws Y b cA σ)[t]? = some (b + t, fhent Y b cA σ t) := by
  unfold fhws
  rw [List.getElem?_map, List.getElem?_range h]
  rfl
theorem fhws_D {Y : fhY} {b : Nat} {cA : Nat → ClassId} {σ : fhM} : va_D (fhA b Y.2.2) (fhws Y b cA σ) := by
  have key : ∀ (k : Nat) (q : Nat × va_E), (fhws Y b cA σ)[k]? = some q → k < Y.2.2 ∧ q.1 = b + k := by
    intro k q h
    have hl : k < Y.2.2 := by
      have := (List.getElem?_eq_some_iff.mp h).1
      simpa [fhws] using this
    rw [fhws_at hl] at h
    cases h
    exact ⟨hl, rfl⟩
  refine ⟨fun i j p q hi hj e => ?_, fun k q hk => ?_⟩
  · have h1 := key i p hi
    have h2 := key j q hj
    omega
  · have h1 := key k q hk
    unfold fhA
    omega
/-- another memory that differs at one place alone -/
theorem fhws_set {Y : fhY} {b : Nat} {cA : Nat → ClassId} {σ σ' : fhM} {t : Nat} {e : va_E} (he : e = fhent Y b cA σ' t) (h : ∀ a, a ≠ t → fhent Y b cA σ' a = fhent Y b cA σ a) : (fhws Y b cA σ).set t (b + t, e) = fhws Y b cA σ' := by
  subst he
  apply List.ext_getElem?
  intro i
  by_cases hi : i = t
  · subst hi
    by_cases hl : i < Y.2.2
    · rw [List.getElem?_set_self (by simpa [fhws] using hl), fhws_at hl]
    · rw [List.getElem?_eq_none (by simp [fhws]; omega), List.getElem?_eq_none (by simp [fhws]; omega)]
  · rw [List.getElem?_set_ne (fun q => hi q.symm)]
    by_cases hl : i < Y.2.2
    · rw [fhws_at hl, fhws_at hl, h i hi]
    · rw [List.getElem?_eq_none (by simp [fhws]; omega), List.getElem?_eq_none (by simp [fhws]; omega)]
theorem fhent_off {Y : fhY} {b : Nat} {cA : Nat → ClassId} {σ σ' : fhM} {a : Nat} (h1 : σ'.1 a = σ.1 a) (h2 : σ'.2.1 a = σ.2.1 a) (h3 : σ'.2.2 a = σ.2.2 a) : fhent Y b cA σ' a = fhent Y b cA σ a := by
  unfold fhent fharr fhfv
  rw [h1, h2, h3]
/-! locals -/
def fhgl : List (Nat × Value) → Nat → Option Value
  | [], _ => none
  | q :: l, i => bif Nat.beq q.1 i then some q.2 else fhgl l i
def fhc2 : Value → Bool
  | .long _ => true
  | .double _ => true
  | _ => false
def fhf1 (i : Nat) : List (Nat × Value) → List (Nat × Value)
  | [] => []
  | q :: l => bif Nat.beq q.1 i || (Nat.beq (q.1 + 1) i && fhc2 q.2) then fhf1 i l else q :: fhf1 i l
def fhf2 (i : Nat) : List (Nat × Value) → List (Nat × Value)
  | [] => []
  | q :: l => bif Nat.beq q.1 i || (Nat.beq q.1 (i + 1) || (Nat.beq (q.1 + 1) i && fhc2 q.2)) then fhf2 i l else q :: fhf2 i l
theorem fhc2_cat (v : Value) : fhc2 v = (v.category == 2) := by cases v <;> rfl
theorem fhf1_eq (b i : Nat) (l : List (Nat × Value)) : fhcl b (fhf1 i l) = (fhcl b l).filter (fun q => !(q.1 == i) && !(q.1 + 1 == i && q.2.category == 2)) := by
  induction l with
  | nil => rfl
  | cons q l ih =>
    have e : fhcl b (q :: l) = (q.1, fhcv b q.2) :: fhcl b l := rfl
    rw [e, List.filter_cons, ← ih]
    simp only [fhf1, fhbq, fhc2_cat, fhcv_cat]
    cases h1 : (q.1 == i) <;> cases h2 : (q.1 + 1 == i) <;> cases h3 : (q.2.category == 2) <;> simp [fhcl]
theorem fhf2_eq (b i : Nat) (l : List (Nat × Value)) : fhcl b (fhf2 i l) = (fhcl b l).filter (fun q => !(q.1 == i) && (!(q.1 == i + 1) && !(q.1 + 1 == i && q.2.category == 2))) := by
  induction l with
  | nil => rfl
  | cons q l ih =>
    have e : fhcl b (q :: l) = (q.1, fhcv b q.2) :: fhcl b l := rfl
    rw [e, List.filter_cons, ← ih]
    simp only [fhf2, fhbq, fhc2_cat, fhcv_cat]
    cases h1 : (q.1 == i) <;> cases h0 : (q.1 == i + 1) <;> cases h2 : (q.1 + 1 == i) <;> cases h3 : (q.2.category == 2) <;> simp [fhcl]
theorem fhgl_has {ls : Array Slot} {nL b : Nat} {l : List (Nat × Value)} (h : lv_has ls nL (fhcl b l)) {i : Nat} {v : Value} (hv : fhgl l i = some v) : ls[i]? = some (.val (fhcv b v)) := by
  obtain ⟨-, -, h⟩ := h
  induction l with
  | nil => cases hv
  | cons q l ih =>
    unfold fhgl at hv
    cases hb : Nat.beq q.1 i with
    | true =>
      rw [hb] at hv
      cases hv
      have := Nat.eq_of_beq_eq_true hb
      subst this
      exact h (q.1, fhcv b q.2) (by simp [fhcl])
    | false =>
      rw [hb] at hv
      exact ih hv (fun x hx => h x (by simp only [fhcl, List.map_cons, List.mem_cons] at hx ⊢; exact Or.inr hx))
