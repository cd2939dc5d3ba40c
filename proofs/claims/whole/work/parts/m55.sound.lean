/-! THE INSTRUCTION FUNCTION IS SOUND -/
def fhPok (Y : fhY) (P : fhP) : Prop := ∀ (own idx x j : Nat), P own idx = some (x, j) → ∃ (C : String) (T : u_T) (N : Nat) (ty0 : Nat → FieldType), vwCl[x]? = some (C, T, N) ∧ (∀ w ∈ u_ws C T N, w ∈ fhtbl) ∧ (∀ k, k < N → parseFieldDescriptor (T k).2.2.1 = some (ty0 k)) ∧ (∀ a, a < N → ∀ b, b < N → a ≠ b → (T a).2.1 ≠ (T b).2.1) ∧ j < N ∧
  (Cond.fieldLink (fhrx own) idx (T j).1 (T j).2.1 (T j).2.2.1 ∈ fhtbl ∨ ((∃ host, Cond.fieldLinkNest (fhrx own) idx (T j).1 (T j).2.1 (T j).2.2.1 host ∈ fhtbl) ∧ (Y.2.1 x j).1 = 2)) ∧
  ((Y.2.1 x j).1 = 0 → (T j).2.2.2 = false ∧ ty0 j = .int) ∧ ((Y.2.1 x j).1 = 6 → (T j).2.2.2 = false ∧ ty0 j = .boolean) ∧ ((Y.2.1 x j).1 = 1 → (T j).2.2.2 = false ∧ ty0 j = .long) ∧ ((Y.2.1 x j).1 = 4 ∨ (Y.2.1 x j).1 = 5 → (T j).2.2.2 = false ∧ ∃ C', ty0 j = .object C')
def fhLok (L : Nat → Nat → Option Int64) : Prop := ∀ (own idx : Nat) (x : Int64), L own idx = some x → Cond.constantLong (fhrx own) idx x ∈ fhtbl
theorem fhent_arr {Y : fhY} {b : Nat} {cA : Nat → ClassId} {σ : fhM} {t : Nat} (h : (Y.1 t).1 = 1) : fhent Y b cA σ t = .inl (cA (Y.1 t).2.1, (Y.1 t).2.2, fharr σ t (Y.1 t).2.1) := by
  unfold fhent
  rcases e : Y.1 t with ⟨a, x, n⟩
  rw [e] at h
  subst h
  rfl
theorem fhent_obj {Y : fhY} {b : Nat} {cA : Nat → ClassId} {σ : fhM} {t : Nat} (h : (Y.1 t).1 = 0) : fhent Y b cA σ t = .inr ((Y.1 t).2.1, (List.range (Y.1 t).2.2).map (fun j => fhcv b (fhfv Y σ t (Y.1 t).2.1 j))) := by
  unfold fhent
  rcases e : Y.1 t with ⟨a, x, n⟩
  rw [e] at h
  subst h
  rfl
theorem fhrng {n j : Nat} {α : Type} (f : Nat → α) (h : j < n) : ((List.range n).map f)[j]? = some (f j) := by
  rw [List.getElem?_map, List.getElem?_range h]
  rfl
theorem fharr_i {σ : fhM} {t x : Nat} (h : x = 0 ∨ x = 1 ∨ x = 2) : fharr σ t x = .inl (σ.1 t) := by
  rcases h with rfl | rfl | rfl <;> rfl
theorem fhtys_at {cA : Nat → ClassId} : (fhtys cA)[0]? = some (cA 0, .int) ∧ (fhtys cA)[1]? = some (cA 1, .char) ∧ (fhtys cA)[2]? = some (cA 2, .boolean) ∧ (fhtys cA)[3]? = some (cA 3, .long) := ⟨rfl, rfl, rfl, rfl⟩
/-- what an array's cell is, in the world's list -/
theorem fharr_at {Y : fhY} {b : Nat} {cA : Nat → ClassId} {σ : fhM} {t ty : Nat} {q : Bool} (h : (Nat.beq (Y.1 t).1 1 && (Nat.beq (Y.1 t).2.1 ty && (Nat.blt t Y.2.2 && q))) = true) : (fhws Y b cA σ)[t]? = some (b + t, .inl (cA ty, (Y.1 t).2.2, fharr σ t ty)) ∧ q = true ∧ (Y.1 t).1 = 1 ∧ (Y.1 t).2.1 = ty := by
  obtain ⟨h1, h⟩ := fhand h
  obtain ⟨h2, h⟩ := fhand h
  obtain ⟨h3, h⟩ := fhand h
  have e1 := Nat.eq_of_beq_eq_true h1
  have e2 := Nat.eq_of_beq_eq_true h2
  refine ⟨?_, h, e1, e2⟩
  rw [fhws_at (fhblt h3), fhent_arr e1, e2]
theorem fhobj_at {Y : fhY} {b : Nat} {cA : Nat → ClassId} {σ : fhM} {t x : Nat} {q : Bool} (h : (Nat.beq (Y.1 t).1 0 && (Nat.beq (Y.1 t).2.1 x && (Nat.blt t Y.2.2 && q))) = true) : (fhws Y b cA σ)[t]? = some (b + t, .inr (x, (List.range (Y.1 t).2.2).map (fun j => fhcv b (fhfv Y σ t x j)))) ∧ q = true ∧ (Y.1 t).1 = 0 ∧ (Y.1 t).2.1 = x := by
  obtain ⟨h1, h⟩ := fhand h
  obtain ⟨h2, h⟩ := fhand h
  obtain ⟨h3, h⟩ := fhand h
  have e1 := Nat.eq_of_beq_eq_true h1
  have e2 := Nat.eq_of_beq_eq_true h2
  refine ⟨?_, h, e1, e2⟩
  rw [fhws_at (fhblt h3), fhent_obj e1, e2]
/-- a field's new value, as the list has it -/
theorem fhset_f {Y : fhY} {b : Nat} {cA : Nat → ClassId} {σ σ' : fhM} {t x j : Nat} {w : Value} (e1 : (Y.1 t).1 = 0) (e2 : (Y.1 t).2.1 = x) (hw : fhfv Y σ' t x j = w) (hj : ∀ k, k ≠ j → fhfv Y σ' t x k = fhfv Y σ t x k) (ha : ∀ a, a ≠ t → fhent Y b cA σ' a = fhent Y b cA σ a) :
    (fhws Y b cA σ).set t (b + t, .inr (x, ((List.range (Y.1 t).2.2).map (fun j => fhcv b (fhfv Y σ t x j))).set j (fhcv b w))) = fhws Y b cA σ' := by
  refine fhws_set ?_ ha
  rw [fhent_obj e1, e2]
  refine congrArg Sum.inr (congrArg (Prod.mk x) ?_)
  apply List.ext_getElem?
  intro i
  by_cases hi : i = j
  · subst hi
    by_cases hl : i < (Y.1 t).2.2
    · rw [List.getElem?_set_self (by simpa using hl), fhrng _ hl, hw]
    · rw [List.getElem?_eq_none (by simp; omega), List.getElem?_eq_none (by simp; omega)]
  · rw [List.getElem?_set_ne (fun q => hi q.symm)]
    by_cases hl : i < (Y.1 t).2.2
    · rw [fhrng _ hl, fhrng _ hl, hj i hi]
    · rw [List.getElem?_eq_none (by simp; omega), List.getElem?_eq_none (by simp; omega)]
theorem fhfv_off {Y : fhY} {σ σ' : fhM} {t x k : Nat} (h1 : σ'.1 t k = σ.1 t k) (h2 : σ'.2.1 t k = σ.2.1 t k) (h3 : σ'.2.2 t k = σ.2.2 t k) : fhfv Y σ' t x k = fhfv Y σ t x k := by
  unfold fhfv
  rw [h1, h2, h3]
theorem fhent_I {Y : fhY} {b : Nat} {cA : Nat → ClassId} {σ : fhM} {t k : Nat} {x : Int32} : ∀ a, a ≠ t → fhent Y b cA (fhI σ t k x) a = fhent Y b cA σ a := fun _ h => fhent_off (fhup_off h) rfl rfl
theorem fhent_J {Y : fhY} {b : Nat} {cA : Nat → ClassId} {σ : fhM} {t k : Nat} {x : Int64} : ∀ a, a ≠ t → fhent Y b cA (fhJ σ t k x) a = fhent Y b cA σ a := fun _ h => fhent_off rfl (fhup_off h) rfl
theorem fhent_R {Y : fhY} {b : Nat} {cA : Nat → ClassId} {σ : fhM} {t k x : Nat} : ∀ a, a ≠ t → fhent Y b cA (fhR σ t k x) a = fhent Y b cA σ a := fun _ h => fhent_off rfl rfl (fhup_off h)
theorem fhset_ai {Y : fhY} {b : Nat} {cA : Nat → ClassId} {σ : fhM} {t ty k : Nat} {x : Int32} (e1 : (Y.1 t).1 = 1) (e2 : (Y.1 t).2.1 = ty) (h : ty = 0 ∨ ty = 1 ∨ ty = 2) : (fhws Y b cA σ).set t (b + t, .inl (cA ty, (Y.1 t).2.2, .inl (upd (σ.1 t) k x))) = fhws Y b cA (fhI σ t k x) := by
  refine fhws_set ?_ fhent_I
  rw [fhent_arr e1, e2, fharr_i h]
  show _ = Sum.inl (cA ty, (Y.1 t).2.2, Sum.inl (fhup σ.1 t k x t))
  rw [fhup_at]
  rfl
theorem fhset_aj {Y : fhY} {b : Nat} {cA : Nat → ClassId} {σ : fhM} {t k : Nat} {x : Int64} (e1 : (Y.1 t).1 = 1) (e2 : (Y.1 t).2.1 = 3) : (fhws Y b cA σ).set t (b + t, .inl (cA 3, (Y.1 t).2.2, .inr (.inl (vp_updL (σ.2.1 t) k x)))) = fhws Y b cA (fhJ σ t k x) := by
  refine fhws_set ?_ fhent_J
  rw [fhent_arr e1, e2]
  show _ = Sum.inl (cA 3, (Y.1 t).2.2, Sum.inr (Sum.inl (fhup σ.2.1 t k x t)))
  rw [fhup_at]
  rfl
