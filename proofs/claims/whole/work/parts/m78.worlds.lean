/-! CONSTRUCTORS: the two worlds, by program -/
def gveq : Value → Value → Bool
  | .int a, .int c => decide (a = c)
  | .long a, .long c => decide (a = c)
  | .null, .null => true
  | .ref a, .ref c => Nat.beq a c
  | _, _ => false
theorem gveq_ok {a c : Value} (h : gveq a c = true) : a = c := by
  unfold gveq at h
  split at h
  · rw [of_decide_eq_true h]
  · rw [of_decide_eq_true h]
  · rfl
  · rw [Nat.eq_of_beq_eq_true h]
  · cases h
def gleq {α : Type} (f : α → α → Bool) : List α → List α → Bool
  | [], [] => true
  | a :: l, c :: r => f a c && gleq f l r
  | _, _ => false
theorem gleq_ok {α : Type} {f : α → α → Bool} (hf : ∀ a c, f a c = true → a = c) : ∀ {l r : List α}, gleq f l r = true → l = r
  | [], [], _ => rfl
  | a :: l, c :: r, h => by
    obtain ⟨h1, h2⟩ := fhand h
    rw [hf _ _ h1, gleq_ok hf h2]
  | [], _ :: _, h => by cases h
  | _ :: _, [], h => by cases h
def gpeq (a c : Nat × Int32) : Bool := Nat.beq a.1 c.1 && decide (a.2 = c.2)
def geeq (a c : gE) : Bool := Nat.beq a.1 c.1 && (Nat.beq a.2.1 c.2.1 && (Nat.beq a.2.2.1 c.2.2.1 && (gleq gveq a.2.2.2.1 c.2.2.2.1 && gleq gpeq a.2.2.2.2 c.2.2.2.2)))
def geq (o : Option (List gE × Nat × Nat)) (w : List gE) (cl sl : Nat) : Bool := match o with
  | some q => gleq geeq q.1 w && (Nat.beq q.2.1 cl && Nat.beq q.2.2 sl)
  | none => false
theorem gpeq_ok (a c : Nat × Int32) (h : gpeq a c = true) : a = c := by
  obtain ⟨g1, g2⟩ := fhand h
  exact Prod.ext (Nat.eq_of_beq_eq_true g1) (of_decide_eq_true g2)
theorem geeq_ok (a c : gE) (h : geeq a c = true) : a = c := by
  obtain ⟨h1, h⟩ := fhand h
  obtain ⟨h2, h⟩ := fhand h
  obtain ⟨h3, h⟩ := fhand h
  obtain ⟨h4, h5⟩ := fhand h
  exact Prod.ext (Nat.eq_of_beq_eq_true h1) (Prod.ext (Nat.eq_of_beq_eq_true h2) (Prod.ext (Nat.eq_of_beq_eq_true h3) (Prod.ext (gleq_ok (fun _ _ h => gveq_ok h) h4) (gleq_ok gpeq_ok h5))))
theorem geq_ok {o : Option (List gE × Nat × Nat)} {w : List gE} {cl sl : Nat} (h : geq o w cl sl = true) : o = some (w, cl, sl) := by
  unfold geq at h
  split at h
  · obtain ⟨h1, h⟩ := fhand h
    obtain ⟨h2, h3⟩ := fhand h
    exact congrArg some (Prod.ext (gleq_ok geeq_ok h1) (Prod.ext (Nat.eq_of_beq_eq_true h2) (Nat.eq_of_beq_eq_true h3)))
  · cases h
def gwF : List gE := [(0, 11, 19, [.ref 1, .int 0, .ref 3, .ref 6, .ref 9, .ref 10, .ref 15, .ref 27, .int 0, .ref 39, .ref 56, .ref 76, .ref 93, .ref 98, .int 0, .ref 100, .int 1, .int 0, .int (-1)], []),
  (0, 2, 1, [.ref 2], []),
  (1, 0, 1600, [], []),
  (0, 8, 11, [.ref 4, .int 0, .int 0, .int 0, .int 0, .int 0, .int 0, .int 0, .int 0, .int 0, .int 0], []),
  (0, 2, 1, [.ref 5], []),
  (1, 0, 8000, [], []),
  (0, 3, 2, [.ref 7, .int 0], []),
  (0, 2, 1, [.ref 8], []),
  (1, 0, 1600, [], []),
  (0, 5, 5, [.ref 3, .ref 6, .null, .int 0, .int 0], []),
  (0, 10, 3, [.ref 11, .ref 13, .int 0], []),
  (0, 2, 1, [.ref 12], []),
  (1, 0, 30, [], []),
  (0, 2, 1, [.ref 14], []),
  (1, 0, 64, [], []),
  (0, 7, 15, [.ref 3, .ref 9, .ref 16, .ref 19, .ref 21, .ref 23, .int 0, .ref 25, .int 0, .int 0, .int 0, .int 0, .int 0, .int 0, .int 0], []),
  (0, 3, 2, [.ref 17, .int 0], []),
  (0, 2, 1, [.ref 18], []),
  (1, 0, 1600, [], []),
  (0, 2, 1, [.ref 20], []),
  (1, 0, 5, [], []),
  (0, 2, 1, [.ref 22], []),
  (1, 0, 8, [], []),
  (0, 2, 1, [.ref 24], []),
  (1, 0, 16, [], []),
  (0, 2, 1, [.ref 26], []),
  (1, 0, 5, [], []),
  (0, 7, 15, [.ref 3, .ref 9, .ref 28, .ref 31, .ref 33, .ref 35, .int 0, .ref 37, .int 0, .int 0, .int 0, .int 0, .int 0, .int 0, .int 0], []),
  (0, 3, 2, [.ref 29, .int 0], []),
  (0, 2, 1, [.ref 30], []),
  (1, 0, 1600, [], []),
  (0, 2, 1, [.ref 32], []),
  (1, 0, 5, [], []),
  (0, 2, 1, [.ref 34], []),
  (1, 0, 8, [], []),
  (0, 2, 1, [.ref 36], []),
  (1, 0, 16, [], []),
  (0, 2, 1, [.ref 38], []),
  (1, 0, 5, [], []),
  (0, 9, 13, [.ref 40, .ref 42, .ref 44, .ref 46, .ref 48, .int 0, .ref 50, .ref 52, .ref 54, .int 0, .int 0, .int 0, .int 0], []),
  (0, 2, 1, [.ref 41], []),
  (1, 0, 6, [], []),
  (0, 2, 1, [.ref 43], []),
  (1, 0, 5120, [], []),
  (0, 2, 1, [.ref 45], []),
  (1, 0, 5120, [], []),
  (0, 2, 1, [.ref 47], []),
  (1, 0, 1024, [], []),
  (0, 2, 1, [.ref 49], []),
  (1, 0, 1024, [], []),
  (0, 2, 1, [.ref 51], []),
  (1, 0, 5, [], []),
  (0, 2, 1, [.ref 53], []),
  (1, 0, 1024, [], []),
  (0, 2, 1, [.ref 55], []),
  (1, 0, 1024, [], []),
  (0, 4, 11, [.ref 57, .ref 64, .ref 66, .ref 68, .ref 70, .ref 39, .ref 72, .ref 74, .int 0, .int 0, .int 0], []),
  (0, 0, 6, [.ref 58, .ref 60, .int 0, .int 0, .ref 62, .int 0], []),
  (0, 2, 1, [.ref 59], []),
  (1, 0, 1024, [], []),
  (0, 2, 1, [.ref 61], []),
  (1, 0, 1024, [], []),
  (0, 2, 1, [.ref 63], []),
  (1, 0, 5, [], []),
  (0, 2, 1, [.ref 65], []),
  (1, 0, 1024, [], []),
  (0, 2, 1, [.ref 67], []),
  (1, 0, 1024, [], []),
  (0, 2, 1, [.ref 69], []),
  (1, 0, 256, [], []),
  (0, 2, 1, [.ref 71], []),
  (1, 0, 256, [], []),
  (0, 2, 1, [.ref 73], []),
  (1, 0, 1024, [], []),
  (0, 2, 1, [.ref 75], []),
  (1, 0, 1024, [], []),
  (0, 1, 14, [.ref 39, .ref 77, .ref 79, .ref 81, .ref 83, .int 0, .int 0, .ref 85, .ref 87, .int 0, .ref 89, .ref 91, .int 0, .int 0], []),
  (0, 2, 1, [.ref 78], []),
  (1, 0, 1024, [], []),
  (0, 2, 1, [.ref 80], []),
  (1, 0, 1024, [], []),
  (0, 2, 1, [.ref 82], []),
  (1, 0, 1025, [], []),
  (0, 2, 1, [.ref 84], []),
  (1, 0, 1025, [], []),
  (0, 2, 1, [.ref 86], []),
  (1, 0, 1024, [], []),
  (0, 2, 1, [.ref 88], []),
  (1, 0, 5120, [], []),
  (0, 2, 1, [.ref 90], []),
  (1, 0, 48, [], []),
  (0, 2, 1, [.ref 92], []),
  (1, 0, 1024, [], []),
  (0, 6, 5, [.ref 94, .int 0, .ref 96, .int 0, .int 0], []),
  (0, 2, 1, [.ref 95], []),
  (1, 0, 2048, [], []),
  (0, 2, 1, [.ref 97], []),
  (1, 0, 700, [], []),
  (0, 2, 1, [.ref 99], []),
  (1, 0, 136, [], []),
  (0, 2, 1, [.ref 101], []),
  (1, 0, 6, [], [])]
set_option maxRecDepth 100000 in
theorem gevF : gev 400 11 0 (lv_args 0 [.ref 0]) [] [(0, 11, fhcN 11, gdf 11, [])] 0 0 = some (gwF, 101, 49922) := geq_ok (by decide +kernel)
