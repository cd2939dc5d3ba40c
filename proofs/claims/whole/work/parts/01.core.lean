/-! CORE: memory, words, loops; layouts -/
/-- what the cells hold: ints (booleans, chars), longs, references that change (places), each by place and slot -/
abbrev fhM : Type := (Nat → Nat → Int32) × (Nat → Nat → Int64) × (Nat → Nat → Nat)
/-- layout: of a place (0, class, fields) or (1, array type, length); of a class's field (kind, place or step); how many places -/
abbrev fhY : Type := (Nat → Nat × Nat × Nat) × (Nat → Nat → Nat × Nat) × Nat
def fhup {α : Type} (f : Nat → Nat → α) (t k : Nat) (x : α) : Nat → Nat → α := fun a j => bif Nat.beq a t && Nat.beq j k then x else f a j
theorem fhup_if {α : Type} (f : Nat → Nat → α) (t k : Nat) (x : α) (a j : Nat) : fhup f t k x a j = if a = t ∧ j = k then x else f a j := by
  unfold fhup
  by_cases h1 : a = t
  · by_cases h2 : j = k
    · subst h1; subst h2; simp
    · have e : Nat.beq j k = false := by cases e : Nat.beq j k with
        | true => exact absurd (Nat.eq_of_beq_eq_true e) h2
        | false => rfl
      simp [e, h2]
  · have e : Nat.beq a t = false := by cases e : Nat.beq a t with
      | true => exact absurd (Nat.eq_of_beq_eq_true e) h1
      | false => rfl
    simp [e, h1]
def fhI (σ : fhM) (t k : Nat) (x : Int32) : fhM := (fhup σ.1 t k x, σ.2)
def fhJ (σ : fhM) (t k : Nat) (x : Int64) : fhM := (σ.1, fhup σ.2.1 t k x, σ.2.2)
def fhR (σ : fhM) (t k : Nat) (x : Nat) : fhM := (σ.1, σ.2.1, fhup σ.2.2 t k x)
theorem fhup_off {α : Type} {f : Nat → Nat → α} {t k a : Nat} {x : α} (h : a ≠ t) : fhup f t k x a = f a := by
  funext j
  rw [fhup_if, if_neg (fun q => h q.1)]
theorem fhup_at {α : Type} {f : Nat → Nat → α} {t k : Nat} {x : α} : fhup f t k x t = fun j => if j = k then x else f t j := by
  funext j
  rw [fhup_if]
  simp
theorem fhup_ne {α : Type} {f : Nat → Nat → α} {t j k : Nat} {x : α} (h : k ≠ j) : fhup f t j x t k = f t k := by
  rw [fhup_if, if_neg (fun q => h q.2)]
theorem fhup_eq {α : Type} {f : Nat → Nat → α} {t j : Nat} {x : α} : fhup f t j x t j = x := by
  rw [fhup_if, if_pos ⟨rfl, rfl⟩]
def fhnz (y : Int32) : Bool := !(decide (y = 0))
def fhnzl (y : Int64) : Bool := !(decide (y = 0))
def fhrem (x y : Int32) : Int32 := x - x / y * y
def fhreml (x y : Int64) : Int64 := x - x / y * y
def fhin (i : Int32) (n : Nat) : Bool := !(decide (i < 0)) && decide (i.toNatClampNeg < n)
def fhix (i : Int32) : Nat := i.toNatClampNeg
def fhbit (x : Int32) : Bool := decide (x = 0) || decide (x = 1)
def fhus (x y : Int32) : Int32 := (x.toUInt32 >>> (y.toUInt32 &&& Int32.toUInt32 31)).toInt32
/-- a boolean as the machine has it -/
def fhb (x : Bool) : Int32 := match x with
  | true => 1
  | false => 0
theorem fhb_0 {x : Bool} : fhb x = 0 ↔ x = false := by cases x <;> simp [fhb]
theorem fhb_1 {x : Bool} : fhb x = 1 ↔ x = true := by cases x <;> simp [fhb]
def fhlet {α β : Type} (a : α) (f : α → β) : β := f a
theorem fhlet_elim {α β : Type} {a : α} {f : α → β} {o : β} (h : fhlet a f = o) : ∃ x, x = a ∧ f x = o := ⟨a, rfl, h⟩
/-- a loop: step until it leaves, with fuel -/
def fhit {α β : Type} (f : α → Option (α ⊕ β)) : Nat → α → Option β
  | 0, _ => none
  | n + 1, x => match f x with
    | none => none
    | some (.inl y) => fhit f n y
    | some (.inr z) => some z
def fhK {α β : Type} (W : α → Prop) (B : β → Prop) : α ⊕ β → Prop
  | .inl y => W y
  | .inr z => B z
theorem fhit_ok {α β : Type} {f : α → Option (α ⊕ β)} {W : α → Prop} {B : β → Prop} (step : ∀ (x : α) (o : α ⊕ β), f x = some o → fhK W B o → W x) : ∀ (n : Nat) (x : α) (z : β), fhit f n x = some z → B z → W x := by
  intro n
  induction n with
  | zero => intro x z h; cases h
  | succ n ih =>
    intro x z h hz
    unfold fhit at h
    cases e : f x with
    | none => rw [e] at h; cases h
    | some o =>
      rw [e] at h
      cases o with
      | inl y => exact step x _ e (ih y z h hz)
      | inr w =>
        have hw : w = z := Option.some.inj h
        subst hw
        exact step x _ e hz
theorem fhit_mono {α β : Type} {f : α → Option (α ⊕ β)} {n : Nat} : ∀ {x : α} {z : β}, fhit f n x = some z → ∀ {m : Nat}, n ≤ m → fhit f m x = some z := by
  induction n with
  | zero => intro x z h; cases h
  | succ n ih =>
    intro x z h m hm
    cases m with
    | zero => omega
    | succ m =>
      unfold fhit at h ⊢
      cases e : f x with
      | none => rw [e] at h; cases h
      | some o =>
        rw [e] at h
        cases o with
        | inl y => exact ih h (Nat.le_of_succ_le_succ hm)
        | inr w => exact h
/-- a loop, whatever its length -/
noncomputable def fhlp {α β : Type} (f : α → Option (α ⊕ β)) (x : α) : Option β := @dite _ (∃ n z, fhit f n x = some z) (Classical.propDecidable _) (fun h => some (Classical.choose (Classical.choose_spec h))) (fun _ => none)
theorem fhlp_of {α β : Type} {f : α → Option (α ⊕ β)} {n : Nat} {x : α} {z : β} (h : fhit f n x = some z) : fhlp f x = some z := by
  have hx : ∃ n z, fhit f n x = some z := ⟨n, z, h⟩
  unfold fhlp
  rw [dif_pos hx]
  have h2 := Classical.choose_spec (Classical.choose_spec hx)
  have h3 := fhit_mono h (Nat.le_max_left n (Classical.choose hx))
  have h4 := fhit_mono h2 (Nat.le_max_right n (Classical.choose hx))
  rw [h4] at h3
  exact h3
theorem fhlp_ex {α β : Type} {f : α → Option (α ⊕ β)} {x : α} {z : β} (h : fhlp f x = some z) : ∃ n, fhit f n x = some z := by
  unfold fhlp at h
  by_cases hx : ∃ n z, fhit f n x = some z
  · rw [dif_pos hx] at h
    have h2 := Classical.choose_spec (Classical.choose_spec hx)
    exact ⟨_, h2.trans h⟩
  · rw [dif_neg hx] at h; cases h
theorem fhlp_ok {α β : Type} {f : α → Option (α ⊕ β)} {W : α → Prop} {B : β → Prop} (step : ∀ (x : α) (o : α ⊕ β), f x = some o → fhK W B o → W x) (x : α) (z : β) (h : fhlp f x = some z) (hz : B z) : W x := by
  obtain ⟨n, hn⟩ := fhlp_ex h
  exact fhit_ok step n x z hn hz
def fhwby : List Int32 := [109, 97, 114, 107, 115, 32, 103, 117, 101, 115, 116, 32, 119, 101, 97, 114, 115, 32, 98, 108, 105, 110, 100, 32, 116, 111, 32, 114, 117, 108, 101, 32, 102, 97, 99, 116, 32, 115, 108, 105, 112, 32, 115, 117, 109, 32, 116, 111, 112, 32, 108, 111, 119, 32, 107, 105, 110, 100, 115, 32, 99, 111, 117, 110, 116, 32, 110, 117, 109, 98, 101, 114, 32, 109, 97, 114, 107, 32, 114, 111, 119, 115, 32, 107, 110, 111, 119, 115, 32, 114, 111, 117, 110, 100, 32, 115, 101, 101, 115, 32, 99, 111, 117, 108, 100, 32, 111, 114, 32, 97, 110, 100, 32, 110, 111, 116, 32, 97, 108, 108, 32, 109, 105, 110, 32, 109, 97, 120, 32, 102, 105, 114, 115, 116, 32, 108, 97, 115, 116, 32, 111, 102, 116, 101, 110, 32, 116, 111, 116, 97, 108, 32, 109, 111, 115, 116, 32, 108, 101, 97, 115, 116, 32]
def fhnd {α : Type} (d : α) : List α → Nat → α
  | [], _ => d
  | a :: l, n => match n with
    | 0 => a
    | n + 1 => fhnd d l n
def fhplF : List (Nat × Nat × Nat) := [(0, 11, 19), (0, 2, 1), (1, 0, 1600), (0, 8, 11), (0, 2, 1), (1, 0, 8000), (0, 3, 2), (0, 2, 1), (1, 0, 1600), (0, 5, 5), (0, 10, 3), (0, 2, 1), (1, 0, 30), (0, 2, 1), (1, 0, 64), (0, 7, 15), (0, 3, 2), (0, 2, 1), (1, 0, 1600), (0, 2, 1), (1, 0, 5), (0, 2, 1), (1, 0, 8), (0, 2, 1), (1, 0, 16), (0, 2, 1), (1, 0, 5), (0, 7, 15), (0, 3, 2), (0, 2, 1), (1, 0, 1600), (0, 2, 1), (1, 0, 5), (0, 2, 1), (1, 0, 8), (0, 2, 1), (1, 0, 16), (0, 2, 1), (1, 0, 5), (0, 9, 13), (0, 2, 1), (1, 0, 6), (0, 2, 1), (1, 0, 5120), (0, 2, 1), (1, 0, 5120), (0, 2, 1), (1, 0, 1024), (0, 2, 1), (1, 0, 1024), (0, 2, 1), (1, 0, 5), (0, 2, 1), (1, 0, 1024), (0, 2, 1), (1, 0, 1024), (0, 4, 11), (0, 0, 6), (0, 2, 1), (1, 0, 1024), (0, 2, 1), (1, 0, 1024), (0, 2, 1), (1, 0, 5), (0, 2, 1), (1, 0, 1024), (0, 2, 1), (1, 0, 1024), (0, 2, 1), (1, 0, 256), (0, 2, 1), (1, 0, 256), (0, 2, 1), (1, 0, 1024), (0, 2, 1), (1, 0, 1024), (0, 1, 14), (0, 2, 1), (1, 0, 1024), (0, 2, 1), (1, 0, 1024), (0, 2, 1), (1, 0, 1025), (0, 2, 1), (1, 0, 1025), (0, 2, 1), (1, 0, 1024), (0, 2, 1), (1, 0, 5120), (0, 2, 1), (1, 0, 48), (0, 2, 1), (1, 0, 1024), (0, 6, 5), (0, 2, 1), (1, 0, 2048), (0, 2, 1), (1, 0, 700), (0, 2, 1), (1, 0, 136), (0, 2, 1), (1, 0, 6)]
def fhplM : List (Nat × Nat × Nat) := [(0, 12, 110), (1, 0, 1600), (1, 0, 6), (1, 1, 5), (1, 1, 5), (1, 1, 5), (1, 1, 5), (1, 1, 2), (1, 1, 4), (1, 1, 4), (1, 1, 4), (1, 1, 3), (1, 1, 3), (1, 1, 3), (1, 1, 5), (1, 1, 5), (1, 1, 6), (1, 1, 4), (1, 1, 4), (1, 1, 5), (1, 1, 5), (1, 1, 4), (1, 1, 5), (1, 1, 2), (1, 1, 3), (1, 1, 3), (1, 1, 3), (1, 1, 3), (1, 1, 3), (1, 0, 10), (1, 3, 10), (1, 0, 5), (1, 0, 10), (1, 0, 12), (1, 0, 12), (1, 0, 1600), (1, 0, 5), (1, 2, 1024), (1, 0, 1024), (1, 0, 5120), (1, 0, 21504), (1, 0, 5120), (1, 0, 1024), (1, 0, 32768), (1, 0, 1187), (1, 0, 1026), (1, 0, 1024), (1, 0, 5), (1, 0, 5), (1, 2, 1024), (1, 0, 48), (1, 0, 23740), (1, 1, 5), (1, 1, 4), (1, 1, 5), (1, 1, 5), (1, 1, 4), (1, 1, 5), (1, 1, 3), (1, 1, 3), (1, 1, 2), (1, 1, 3), (1, 1, 3), (1, 1, 3), (1, 1, 3), (1, 1, 3), (1, 1, 3), (1, 1, 5), (1, 1, 6), (1, 1, 4), (1, 1, 4), (1, 1, 5), (1, 1, 5), (1, 1, 5), (1, 1, 4), (1, 1, 5), (1, 0, 1700), (1, 0, 1700), (1, 3, 1700), (1, 0, 136)]
def fhkd (x : Nat) : List (Nat × Nat) := match x with
  | 0 => [(2, 58), (2, 60), (0, 0), (6, 0), (2, 62), (0, 0)]
  | 1 => [(2, 39), (4, 0), (4, 0), (4, 0), (4, 0), (0, 0), (0, 0), (2, 85), (2, 87), (6, 0), (2, 89), (2, 91), (0, 0), (0, 0)]
  | 2 => [(3, 1)]
  | 3 => [(3, 1), (0, 0)]
  | 4 => [(2, 57), (2, 64), (2, 66), (2, 68), (2, 70), (2, 39), (2, 72), (2, 74), (0, 0), (0, 0), (0, 0)]
  | 5 => [(2, 3), (4, 0), (5, 0), (6, 0), (0, 0)]
  | 6 => [(2, 94), (0, 0), (2, 96), (0, 0), (0, 0)]
  | 7 => [(2, 3), (2, 9), (3, 1), (3, 4), (3, 6), (3, 8), (0, 0), (3, 10), (0, 0), (0, 0), (0, 0), (0, 0), (0, 0), (0, 0), (0, 0)]
  | 8 => [(2, 4), (0, 0), (0, 0), (0, 0), (0, 0), (0, 0), (0, 0), (0, 0), (0, 0), (0, 0), (0, 0)]
  | 9 => [(2, 40), (2, 42), (2, 44), (2, 46), (2, 48), (0, 0), (2, 50), (2, 52), (2, 54), (0, 0), (0, 0), (0, 0), (0, 0)]
  | 10 => [(2, 11), (2, 13), (0, 0)]
  | 11 => [(2, 1), (0, 0), (2, 3), (2, 6), (2, 9), (2, 10), (4, 0), (4, 0), (6, 0), (2, 39), (2, 56), (2, 76), (2, 93), (2, 98), (0, 0), (2, 100), (0, 0), (0, 0), (0, 0)]
  | 12 => [(2, 1), (0, 0), (0, 0), (0, 0), (0, 0), (0, 0), (0, 0), (0, 0), (0, 0), (2, 2), (0, 0), (2, 3), (2, 4), (2, 5), (2, 6), (2, 7), (2, 8), (2, 9), (2, 10), (2, 11), (2, 12), (2, 13), (2, 14), (2, 15), (2, 16), (2, 17), (2, 18), (2, 19), (2, 20), (2, 21), (2, 22), (2, 23), (2, 24), (2, 25), (2, 26), (2, 27), (2, 28), (0, 0), (2, 29), (2, 30), (2, 31), (2, 32), (2, 33), (2, 34), (2, 35), (0, 0), (0, 0), (6, 0), (0, 0), (2, 36), (0, 0), (0, 0), (0, 0), (0, 0), (2, 37), (2, 38), (2, 39), (2, 40), (2, 41), (2, 42), (2, 43), (2, 44), (6, 0), (2, 45), (2, 46), (2, 47), (2, 48), (2, 49), (0, 0), (2, 50), (2, 51), (0, 0), (0, 0), (1, 0), (2, 52), (2, 53), (2, 54), (2, 55), (2, 56), (2, 57), (2, 58), (2, 59), (2, 60), (2, 61), (2, 62), (2, 63), (2, 64), (2, 65), (2, 66), (2, 67), (2, 68), (2, 69), (2, 70), (2, 71), (2, 72), (2, 73), (2, 74), (2, 75), (2, 76), (0, 0), (2, 77), (0, 0), (0, 0), (0, 0), (2, 78), (0, 0), (1, 0), (6, 0), (2, 79), (0, 0)]
  | _ => []
def fhYF : fhY := (fhnd (9, 0, 0) fhplF, fun x j => fhnd (9, 0) (fhkd x) j, 102)
def fhYM : fhY := (fhnd (9, 0, 0) fhplM, fun x j => fhnd (9, 0) (fhkd x) j, 80)
theorem fhif {c : Prop} [Decidable c] {α : Type} {a : Option α} {o : α} (h : (if c then a else none) = some o) : c ∧ a = some o := by
  by_cases hc : c
  · rw [if_pos hc] at h; exact ⟨hc, h⟩
  · rw [if_neg hc] at h; cases h
def fhiC (t : Nat) : Bool := (Nat.beq (fhYF.1 t).1 0 && (Nat.beq (fhYF.1 t).2.1 2 && (Nat.blt t 102 && Nat.blt 0 (fhYF.1 t).2.2))) && (Nat.beq (fhYF.1 (t + 1)).1 1 && (Nat.beq (fhYF.1 (t + 1)).2.1 0 && Nat.blt (t + 1) 102))
def fhiP (t : Nat) : Bool := Nat.beq t 15 || Nat.beq t 27
def fhiK (t : Nat) : Bool := Nat.beq t 6 || (Nat.beq t 16 || Nat.beq t 28)
def fhiW (t : Nat) : Bool := Nat.beq (fhYM.1 t).1 1 && (Nat.beq (fhYM.1 t).2.1 1 && (Nat.blt t 80 && true))
def fhiA (t : Nat) : Bool := Nat.beq (fhYM.1 t).1 1 && (Nat.beq (fhYM.1 t).2.1 0 && (Nat.blt t 80 && true))
theorem fhblt {a b : Nat} (h : Nat.blt a b = true) : a < b := by
  unfold Nat.blt at h
  exact Nat.le_of_ble_eq_true h
theorem fhand {a b : Bool} (h : (a && b) = true) : a = true ∧ b = true := by simpa using h
/-- Cells.get, put, wipe -/
def fcL (t : Nat) : Nat := (fhYF.1 (t + 1)).2.2
def fcG (σ : fhM) (t : Nat) (k : Int32) : Int32 := bif fhin k (fcL t) then σ.1 (t + 1) (fhix k) else 0
def fcP (σ : fhM) (t : Nat) (k v : Int32) : fhM := (fun a j => bif Nat.beq a (t + 1) && (Nat.beq j (fhix k) && fhin k (fcL t)) then v else σ.1 a j, σ.2)
def fcW (σ : fhM) (t : Nat) : fhM := (fun a j => bif Nat.beq a (t + 1) && Nat.blt j (fcL t) then 0 else σ.1 a j, σ.2)
/-- the number of a word by its packed letters, as WORDS has them -/
def fwN (packed : Int32) : List Int32 → Int32 → Int32 → Int32 → Int32
  | [], _, _, _ => 99
  | c :: l, number, built, shift => if c = 32 then (if built = packed then number else fwN packed l (number + 1) 0 0) else fwN packed l number (built ||| (((c - 97) + 1) <<< (shift &&& 31))) (shift + 5)
def f_X8_wordNumber (v0 : Int32) (_ : fhM) : Int32 := fwN v0 fhwby 0 0 0
theorem fhbq (a b : Nat) : Nat.beq a b = (a == b) := by
  rw [Bool.eq_iff_iff, beq_iff_eq]
  exact ⟨Nat.eq_of_beq_eq_true, fun h => by subst h; exact Nat.beq_refl a⟩
