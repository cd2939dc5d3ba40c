/-! WHAT TESTS AND SUMS ARE: numbers, steps, a stack -/
def iI (v : Int) : Int32 := Int32.ofInt v
def lI (v : Int) : Int64 := Int64.ofInt v
def bnd (v : Int) : Prop := -1000000 ≤ v ∧ v ≤ 1000000
theorem iI_t {v : Int} (h1 : -2147483648 ≤ v) (h2 : v < 2147483648) : (iI v).toInt = v := Int32.toInt_ofInt_of_le (by omega) (by omega)
theorem lI_t {v : Int} (h1 : -9000000000000000 ≤ v) (h2 : v < 9000000000000000) : (lI v).toInt = v := Int64.toInt_ofInt_of_le (by omega) (by omega)
theorem iI_n {n : Nat} (h : n < 2 ^ 31) : iI n = nI n := Int32.toInt_inj.mp (by rw [nI_toInt h, iI_t (by omega) (by omega)])
theorem lI_n {n : Nat} (h : n < 2 ^ 31) : lI n = lN n := Int64.toInt_inj.mp (by rw [lN_toInt h, lI_t (by omega) (by omega)])
theorem iI_l {v : Int} (h1 : -2147483648 ≤ v) (h2 : v < 2147483648) : (iI v).toInt64 = lI v := Int64.toInt_inj.mp (by rw [Int32.toInt_toInt64, iI_t h1 h2, lI_t (by omega) (by omega)])
theorem lI_i (v : Int) : (lI v).toInt32 = iI v := Int64.toInt32_ofInt
theorem iI_eqP {a b : Int} (ha1 : -2147483648 ≤ a) (ha2 : a < 2147483648) (hb1 : -2147483648 ≤ b) (hb2 : b < 2147483648) : (iI a = iI b) = (a = b) := propext ⟨fun h => by rw [← iI_t ha1 ha2, ← iI_t hb1 hb2, h], fun h => by rw [h]⟩
theorem iI_ltP {a b : Int} (ha1 : -2147483648 ≤ a) (ha2 : a < 2147483648) (hb1 : -2147483648 ≤ b) (hb2 : b < 2147483648) : (iI a < iI b) = (a < b) := propext (by rw [Int32.lt_iff_toInt_lt, iI_t ha1 ha2, iI_t hb1 hb2])
theorem iI_leP {a b : Int} (ha1 : -2147483648 ≤ a) (ha2 : a < 2147483648) (hb1 : -2147483648 ≤ b) (hb2 : b < 2147483648) : (iI a ≤ iI b) = (a ≤ b) := propext (by rw [Int32.le_iff_toInt_le, iI_t ha1 ha2, iI_t hb1 hb2])
theorem lI_ltP {a b : Int} (ha1 : -9000000000000000 ≤ a) (ha2 : a < 9000000000000000) (hb1 : -9000000000000000 ≤ b) (hb2 : b < 9000000000000000) : (lI a < lI b) = (a < b) := propext (by rw [Int64.lt_iff_toInt_lt, lI_t ha1 ha2, lI_t hb1 hb2])
theorem lI_leP {a b : Int} (ha1 : -9000000000000000 ≤ a) (ha2 : a < 9000000000000000) (hb1 : -9000000000000000 ≤ b) (hb2 : b < 9000000000000000) : (lI a ≤ lI b) = (a ≤ b) := propext (by rw [Int64.le_iff_toInt_le, lI_t ha1 ha2, lI_t hb1 hb2])
theorem lI_eqP {a b : Int} (ha1 : -9000000000000000 ≤ a) (ha2 : a < 9000000000000000) (hb1 : -9000000000000000 ≤ b) (hb2 : b < 9000000000000000) : (lI a = lI b) = (a = b) := propext ⟨fun h => by rw [← lI_t ha1 ha2, ← lI_t hb1 hb2, h], fun h => by rw [h]⟩
theorem lI_add (a b : Int) : lI a + lI b = lI (a + b) := (Int64.ofInt_add a b).symm
theorem lI_sub (a b : Int) : lI a - lI b = lI (a - b) := (Int64.ofInt_sub a b).symm
theorem lI_mul (a b : Int) : lI a * lI b = lI (a * b) := (Int64.ofInt_mul a b).symm
theorem iI_sub (a b : Int) : iI a - iI b = iI (a - b) := (Int32.ofInt_sub a b).symm
theorem iI_0 : (0 : Int32) = iI 0 := by decide +kernel
theorem iI_1 : (1 : Int32) = iI 1 := by decide +kernel
theorem lI_0 : (0 : Int64) = lI 0 := by decide +kernel
theorem lI_1 : (1 : Int64) = lI 1 := by decide +kernel
theorem lI_M : (1000000 : Int64) = lI 1000000 := by decide +kernel
theorem lI_mM : (-1000000 : Int64) = lI (-1000000) := by decide +kernel
def clip (v : Int) : Int := if 1000000 < v then 1000000 else if v < -1000000 then -1000000 else v
theorem clip_b (v : Int) : bnd (clip v) := by
  unfold bnd clip
  split
  · omega
  · split <;> omega
theorem clip_id {v : Int} (h : bnd v) : clip v = v := by
  unfold bnd at h
  unfold clip
  rw [if_neg (by omega), if_neg (by omega)]
def dvi (a b : Int) : Int := if b = 0 then 0 else if ¬ (a < 0 ↔ b < 0) ∧ ¬ a.tdiv b * b = a then a.tdiv b - 1 else a.tdiv b
theorem tdiv_b {a b : Int} (ha : bnd a) : bnd (a.tdiv b) := by
  have := Int.natAbs_tdiv_le_natAbs a b
  unfold bnd at *
  omega
theorem dvi_b {a b : Int} (ha : bnd a) : bnd (dvi a b) := by
  have h1 := tdiv_b (b := b) ha
  unfold dvi
  split
  · unfold bnd; omega
  · rename_i hb
    split
    · rename_i h
      have h2 := Int.natAbs_tdiv a b
      have hb2 : 2 ≤ b.natAbs := by
        rcases Nat.lt_or_ge b.natAbs 2 with q | q
        · exfalso
          have : b = 1 ∨ b = -1 := by omega
          rcases this with rfl | rfl
          · rw [Int.tdiv_one] at h; omega
          · rw [Int.tdiv_neg, Int.tdiv_one] at h; omega
        · exact q
      have h3 : a.natAbs.div b.natAbs ≤ a.natAbs / 2 := Nat.div_le_div_left hb2 (by decide)
      unfold bnd at *
      omega
    · exact h1
def bop (op : Nat) (a b : Int) : Int := match op with
  | 4 => clip (a + b)
  | 5 => clip (a - b)
  | 6 => clip (a * b)
  | 7 => dvi a b
  | 8 => if b < a then b else a
  | 9 => if a < b then b else a
  | 10 => if a < b then 1 else 0
  | 11 => if b < a then 1 else 0
  | 12 => if a = b then 1 else 0
  | 13 => if a ≠ 0 ∧ b ≠ 0 then 1 else 0
  | _ => if a ≠ 0 ∨ b ≠ 0 then 1 else 0
def bt (v : Int) : Prop := v = 0 ∨ v = 1
theorem bt_b {v : Int} (h : bt v) : bnd v := by
  unfold bt at h
  unfold bnd
  omega
theorem one_bt (c : Prop) [Decidable c] : bt (if c then 1 else 0) := by
  unfold bt
  split
  · exact Or.inr rfl
  · exact Or.inl rfl
theorem bop_b {op : Nat} {a b : Int} (ha : bnd a) (hb : bnd b) : bnd (bop op a b) := by
  unfold bop
  split
  · exact clip_b _
  · exact clip_b _
  · exact clip_b _
  · exact dvi_b ha
  · split
    · exact hb
    · exact ha
  · split
    · exact hb
    · exact ha
  all_goals exact bt_b (one_bt _)
/-- which steps may stand -/
def okc (q : Bool) (g : Nat) (c : Nat × Nat) : Bool := match c.1 with
  | 0 => decide (c.2 < 10000)
  | 1 => bif q then decide (10 ≤ c.2) && decide (c.2 ≤ 14) else decide (c.2 < g) || (decide (5 ≤ c.2) && decide (c.2 ≤ 8))
  | 2 => bif q then decide (c.2 = 20) || decide (c.2 = 25) else decide (c.2 = 15)
  | 15 => decide (c.2 = 1)
  | n => decide (n ≤ 14) && decide (c.2 < 10000)
def st3 (st : List Int) : Option (List Int) := match st with
  | v :: r => if v = 0 ∨ v = 1 then some ((1 - v) :: r) else none
  | [] => none
def st2 (f : Int → Int) (st : List Int) : Option (List Int) := match st with
  | v :: r => some (f v :: r)
  | [] => none
def st4 (op : Nat) (st : List Int) : Option (List Int) := match st with
  | b :: a :: r => if op ≤ 12 ∨ ((a = 0 ∨ a = 1) ∧ (b = 0 ∨ b = 1)) then some (bop op a b :: r) else none
  | _ => none
theorem st4_lo {op : Nat} (h : op ≤ 12) {a b : Int} {r : List Int} : st4 op (b :: a :: r) = some (bop op a b :: r) := if_pos (Or.inl h)
theorem st4_bt {op : Nat} {a b : Int} {r : List Int} (ha : bt a) (hb : bt b) : st4 op (b :: a :: r) = some (bop op a b :: r) := if_pos (Or.inr ⟨ha, hb⟩)
def stp (lf : Nat → Int) (lk : Nat → Int → Int) (c : Nat × Nat) (st : List Int) : Option (List Int) := match c.1 with
  | 0 => some ((c.2 : Int) :: st)
  | 15 => some (1 :: st)
  | 1 => some (lf c.2 :: st)
  | 2 => st2 (lk c.2) st
  | 3 => st3 st
  | op => st4 op st
theorem stp4 {lf : Nat → Int} {lk : Nat → Int → Int} {op n : Nat} {st : List Int} (h : 4 ≤ op ∧ op ≤ 14) : stp lf lk (op, n) st = st4 op st := by
  obtain ⟨o1, o2⟩ := h
  have : op = 4 ∨ op = 5 ∨ op = 6 ∨ op = 7 ∨ op = 8 ∨ op = 9 ∨ op = 10 ∨ op = 11 ∨ op = 12 ∨ op = 13 ∨ op = 14 := by omega
  rcases this with rfl | rfl | rfl | rfl | rfl | rfl | rfl | rfl | rfl | rfl | rfl <;> rfl
theorem okc4 {q : Bool} {g op : Nat} (h : 3 ≤ op ∧ op ≤ 14) : okc q g (op, 0) = true := by
  obtain ⟨o1, o2⟩ := h
  have : op = 3 ∨ op = 4 ∨ op = 5 ∨ op = 6 ∨ op = 7 ∨ op = 8 ∨ op = 9 ∨ op = 10 ∨ op = 11 ∨ op = 12 ∨ op = 13 ∨ op = 14 := by omega
  rcases this with rfl | rfl | rfl | rfl | rfl | rfl | rfl | rfl | rfl | rfl | rfl | rfl <;> rfl
def run (q : Bool) (g : Nat) (lf : Nat → Int) (lk : Nat → Int → Int) : gC → List Int → Option (List Int)
  | [], st => some st
  | c :: r, st => if okc q g c = true then (match stp lf lk c st with
    | none => none
    | some s => if s.length ≤ 60 then run q g lf lk r s else none) else none
theorem run_app {q : Bool} {g : Nat} {lf : Nat → Int} {lk : Nat → Int → Int} {c2 : gC} {s2 s3 : List Int} : ∀ {c1 : gC} {st : List Int}, run q g lf lk c1 st = some s2 → run q g lf lk c2 s2 = some s3 → run q g lf lk (c1 ++ c2) st = some s3 := by
  intro c1
  induction c1 with
  | nil => intro st h h2; cases h; exact h2
  | cons c r ih =>
    intro st h h2
    rw [List.cons_append]
    unfold run at h ⊢
    by_cases hc : okc q g c = true
    · rw [if_pos hc] at h ⊢
      cases e : stp lf lk c st with
      | none => rw [e] at h; cases h
      | some s =>
        rw [e] at h
        dsimp only at h ⊢
        by_cases hl : s.length ≤ 60
        · rw [if_pos hl] at h ⊢
          exact ih h h2
        · rw [if_neg hl] at h; cases h
    · rw [if_neg hc] at h; cases h
theorem run_1 {q : Bool} {g : Nat} {lf : Nat → Int} {lk : Nat → Int → Int} {c : Nat × Nat} {st s : List Int} (hc : okc q g c = true) (h : stp lf lk c st = some s) (hl : s.length ≤ 60) : run q g lf lk [c] st = some s := by
  unfold run
  rw [if_pos hc, h]
  dsimp only
  rw [if_pos hl]
  rfl
/-- how high the stack may grow -/
def ned (w o : Nat) : Nat := (match w with | 0 => 6 | 1 => 5 | 2 => 4 | 3 => 3 | 4 => 2 | 5 => 1 | 6 => 6 | 7 => 5 | 8 => 3 | _ => 2) + 3 * (6 - o)
section
variable {lf : Nat → Int} {lk : Nat → Int → Int} {q : Bool} {g : Nat}
def gdS (q : Bool) (g : Nat) (lf : Nat → Int) (lk : Nat → Int → Int) (c : gC) (st : List Int) : Prop := ∃ v, run q g lf lk c st = some (v :: st)
def gdT (q : Bool) (g : Nat) (lf : Nat → Int) (lk : Nat → Int → Int) (c : gC) (st : List Int) : Prop := ∃ v, bt v ∧ run q g lf lk c st = some (v :: st)
def gdM (q : Bool) (g : Nat) (lf : Nat → Int) (lk : Nat → Int → Int) (c : gC) (st : List Int) : Prop := ∀ x, ∃ v, run q g lf lk c (x :: st) = some (v :: st)
def gdN (q : Bool) (g : Nat) (lf : Nat → Int) (lk : Nat → Int → Int) (c : gC) (st : List Int) : Prop := ∀ x, bt x → ∃ v, bt v ∧ run q g lf lk c (x :: st) = some (v :: st)
def gd (q : Bool) (g : Nat) (lf : Nat → Int) (lk : Nat → Int → Int) (w : Nat) (c : gC) (st : List Int) : Prop := match w with
  | 0 => gdT q g lf lk c st
  | 1 => gdT q g lf lk c st
  | 2 => gdT q g lf lk c st
  | 3 => gdS q g lf lk c st
  | 4 => gdS q g lf lk c st
  | 5 => gdS q g lf lk c st
  | 6 => gdN q g lf lk c st
  | 7 => gdN q g lf lk c st
  | _ => gdM q g lf lk c st
theorem gdS_M {c d : gC} {st : List Int} (h : gdS q g lf lk c st) (h2 : gdM q g lf lk d st) : gdS q g lf lk (c ++ d) st := by
  obtain ⟨v, hv⟩ := h
  obtain ⟨u, hu⟩ := h2 v
  exact ⟨u, run_app hv hu⟩
theorem gdT_N {c d : gC} {st : List Int} (h : gdT q g lf lk c st) (h2 : gdN q g lf lk d st) : gdT q g lf lk (c ++ d) st := by
  obtain ⟨v, hb, hv⟩ := h
  obtain ⟨u, hc, hu⟩ := h2 v hb
  exact ⟨u, hc, run_app hv hu⟩
/-- a sum's step, op behind a piece -/
theorem gdM_op {c d : gC} {st : List Int} {op : Nat} (hop : 4 ≤ op ∧ op ≤ 9) (hl : st.length < 60) (h : ∀ x, gdS q g lf lk c (x :: st)) (h2 : gdM q g lf lk d st) : gdM q g lf lk (c ++ ([(op, 0)] ++ d)) st := by
  intro x
  obtain ⟨v, hv⟩ := h x
  obtain ⟨u, hu⟩ := h2 (bop op x v)
  refine ⟨u, run_app hv (run_app (run_1 (s := bop op x v :: st) ?_ ?_ (by rw [List.length_cons]; omega)) hu)⟩
  · exact okc4 (by omega)
  · rw [stp4 (by omega)]; exact st4_lo (by omega)
theorem gdM_0 (st : List Int) : gdM q g lf lk [] st := fun x => ⟨x, rfl⟩
theorem gdN_0 (st : List Int) : gdN q g lf lk [] st := fun x hx => ⟨x, hx, rfl⟩
theorem gdN_op {c d : gC} {st : List Int} {op : Nat} (hop : op = 13 ∨ op = 14) (hl : st.length < 60) (h : ∀ x, gdT q g lf lk c (x :: st)) (h2 : gdN q g lf lk d st) : gdN q g lf lk (c ++ ([(op, 0)] ++ d)) st := by
  intro x hx
  obtain ⟨v, hb, hv⟩ := h x
  have hbo : bt (bop op x v) := by rcases hop with rfl | rfl <;> exact one_bt _
  obtain ⟨u, hc, hu⟩ := h2 (bop op x v) hbo
  refine ⟨u, hc, run_app hv (run_app (run_1 (s := bop op x v :: st) ?_ ?_ (by rw [List.length_cons]; omega)) hu)⟩
  · exact okc4 (by omega)
  · rw [stp4 (by omega)]; exact st4_bt hx hb
/-- two sums and an op -/
theorem gd_two {c d : gC} {st : List Int} {op : Nat} (hop : 4 ≤ op ∧ op ≤ 12) (hl : st.length < 60) (h : gdS q g lf lk c st) (h2 : ∀ x, gdS q g lf lk d (x :: st)) : ∃ x v, run q g lf lk (c ++ (d ++ [(op, 0)])) st = some (bop op x v :: st) := by
  obtain ⟨x, hx⟩ := h
  obtain ⟨v, hv⟩ := h2 x
  refine ⟨x, v, run_app hx (run_app hv (run_1 ?_ ?_ (by rw [List.length_cons]; omega)))⟩
  · exact okc4 (by omega)
  · rw [stp4 (by omega)]; exact st4_lo (by omega)
end
