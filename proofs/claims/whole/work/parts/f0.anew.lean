/-! ANEW: what would be known if another row were the true one. tl n r: the rows left behind n rounds, were r true -/
def tl (W : gW) (n r : Nat) : Nat → Bool := itr W r W.al n
def kH (W : gW) (n r : Nat) : Nat := kb W (rl W.N (tl W n r)) r
theorem kb_31 {W : gW} (hW : wOK W) (l : List Nat) (r : Nat) : kb W l r &&& 31 = kb W l r := by
  have h := kb_lt hW l r
  exact (Nat.and_two_pow_sub_one_eq_mod _ 5).trans (Nat.mod_eq_of_lt h)
theorem tl_z (W : gW) (r : Nat) : tl W 0 r = W.al := rfl
theorem tl_s {W : gW} (hW : wOK W) (n r x : Nat) : tl W (n + 1) r x = (decide (kb W (rl W.N (tl W n r)) x = kH W n r) && tl W n r x) := by
  show (decide (kb W (rl W.N (tl W n r)) x &&& 31 = kb W (rl W.N (tl W n r)) r &&& 31) && tl W n r x) = _
  rw [kb_31 hW, kb_31 hW]
  rfl
theorem tl_al {W : gW} (hW : wOK W) {r x : Nat} : ∀ n, tl W n r x = true → W.al x = true
  | 0 => id
  | n + 1 => fun h => tl_al hW n (by rw [tl_s hW] at h; exact (Bool.and_eq_true _ _ ▸ h).2)
theorem tl_self {W : gW} (hW : wOK W) {r : Nat} (h : W.al r = true) : ∀ n, tl W n r r = true
  | 0 => h
  | n + 1 => by
    rw [tl_s hW, tl_self hW h n, Bool.and_true]
    exact decide_eq_true rfl
theorem tl_same {W : gW} (hW : wOK W) {r x : Nat} : ∀ n, tl W n r x = true → W.al r = true → tl W n x = tl W n r
  | 0 => fun _ _ => rfl
  | n + 1 => fun h ha => by
    rw [tl_s hW, Bool.and_eq_true, decide_eq_true_iff] at h
    have e := tl_same hW n h.2 ha
    funext y
    rw [tl_s hW, tl_s hW, e]
    unfold kH
    rw [e, h.1]
    rfl
theorem tl_k {W : gW} (hW : wOK W) {n r x : Nat} (h : tl W n r x = true) (ha : W.al r = true) : kb W (rl W.N (tl W n r)) x = kH W n x := by
  unfold kH
  rw [tl_same hW n h ha]
theorem tl_s2 {W : gW} (hW : wOK W) {n r x : Nat} (ha : W.al r = true) : tl W (n + 1) r x = true ↔ tl W n r x = true ∧ kH W n x = kH W n r := by
  rw [tl_s hW, Bool.and_eq_true, decide_eq_true_iff]
  constructor
  · rintro ⟨a, b⟩
    rw [tl_k hW b ha] at a
    exact ⟨b, a⟩
  · rintro ⟨a, b⟩
    rw [tl_k hW a ha]
    exact ⟨b, a⟩
theorem al_rl {W : gW} (hW : wOK W) {r : Nat} (h : W.al r = true) : r ∈ rl W.N W.al := rl_mem.mpr ⟨hW.2.2.2.2.2.2.1 r h, h⟩
theorem kH_lt {W : gW} (n r : Nat) : kH W n r < 2 ^ W.g := kbN_lt W _ r W.g
theorem kH_bit {W : gW} {n r i : Nat} (hi : i < W.g) : (kH W n r).testBit i = rdK W r W.al i n := by
  unfold kH kb
  rw [kbN_bit, decide_eq_true hi, Bool.true_and]
  rfl
theorem msk_set {W : gW} {l l2 : List Nat} (h : ∀ r, r ∈ l ↔ r ∈ l2) (i v : Nat) : msk W l i v = msk W l2 i v := by
  apply Nat.eq_of_testBit_eq
  intro b
  rw [Bool.eq_iff_iff, msk_bit, msk_bit]
  exact ⟨fun ⟨r, a, q⟩ => ⟨r, (h r).mp a, q⟩, fun ⟨r, a, q⟩ => ⟨r, (h r).mpr a, q⟩⟩
theorem kb_set {W : gW} {l l2 : List Nat} (h : ∀ r, r ∈ l ↔ r ∈ l2) (r : Nat) : kb W l r = kb W l2 r := by
  apply Nat.eq_of_testBit_eq
  intro b
  unfold kb
  rw [kbN_bit, kbN_bit, msk_set h]
/-- the pieces of a group -/
def pcs (W : gW) (l : List Nat) : Nat → List (List Nat)
  | 0 => []
  | k + 1 => if l.filter (fun r => decide (kb W l r = k)) = [] then pcs W l k else pcs W l k ++ [l.filter (fun r => decide (kb W l r = k))]
def splt (W : gW) (gs : List (List Nat)) : List (List Nat) := gs.flatMap (fun l => pcs W l (2 ^ W.g))
theorem pcs_mem {W : gW} {l p : List Nat} : ∀ {k}, p ∈ pcs W l k ↔ ∃ v, v < k ∧ p = l.filter (fun r => decide (kb W l r = v)) ∧ p ≠ [] := by
  intro k
  induction k with
  | zero => exact ⟨fun h => (by cases h), fun ⟨v, h, _⟩ => absurd h (Nat.not_lt_zero _)⟩
  | succ k ih =>
    unfold pcs
    split
    · rename_i e
      rw [ih]
      constructor
      · rintro ⟨v, a, b⟩
        exact ⟨v, by omega, b⟩
      · rintro ⟨v, a, b, c⟩
        refine ⟨v, ?_, b, c⟩
        rcases Nat.lt_or_ge v k with q | q
        · exact q
        · have : v = k := by omega
          subst this
          exact absurd (b.trans e) c
    · rename_i e
      rw [List.mem_append, List.mem_singleton, ih]
      constructor
      · rintro (⟨v, a, b⟩ | b)
        · exact ⟨v, by omega, b⟩
        · exact ⟨k, Nat.lt_succ_self k, b, b ▸ e⟩
      · rintro ⟨v, a, b, c⟩
        rcases Nat.lt_or_ge v k with q | q
        · exact Or.inl ⟨v, q, b, c⟩
        · have : v = k := by omega
          subst this
          exact Or.inr b
theorem pcs_len {W : gW} {l : List Nat} : ∀ k, (pcs W l k).flatten.length = (l.filter (fun r => decide (kb W l r < k))).length := by
  intro k
  induction k with
  | zero =>
    rw [show pcs W l 0 = [] from rfl]
    have : l.filter (fun r => decide (kb W l r < 0)) = [] := List.filter_eq_nil_iff.mpr (fun a _ => by simp)
    rw [this]
    rfl
  | succ k ih =>
    have hs : (l.filter (fun r => decide (kb W l r < k + 1))).length = (l.filter (fun r => decide (kb W l r < k))).length + (l.filter (fun r => decide (kb W l r = k))).length := by
      rw [← List.countP_eq_length_filter, ← List.countP_eq_length_filter, ← List.countP_eq_length_filter]
      generalize kb W l = T
      clear ih
      induction l with
      | nil => rfl
      | cons x xs ih =>
        rw [List.countP_cons, List.countP_cons, List.countP_cons, ih]
        by_cases q : T x < k
        · have q2 : T x < k + 1 := by omega
          have q3 : ¬ T x = k := by omega
          simp only [q, q2, q3, decide_true, decide_false, if_true, if_false, Bool.false_eq_true]
          omega
        · by_cases q3 : T x = k
          · have q2 : T x < k + 1 := by omega
            simp only [q, q2, q3, decide_true, decide_false, if_true, if_false, Bool.false_eq_true, Nat.lt_irrefl, Nat.lt_succ_self]
            omega
          · have q2 : ¬ T x < k + 1 := by omega
            simp only [q, q2, q3, decide_true, decide_false, if_true, if_false, Bool.false_eq_true]
            omega
    unfold pcs
    rw [hs]
    split
    · rename_i e
      rw [ih, e]
      rfl
    · rw [List.flatten_append, List.length_append, ih]
      show _ = _
      rw [show ([l.filter (fun r => decide (kb W l r = k))] : List (List Nat)).flatten = l.filter (fun r => decide (kb W l r = k)) from by simp]
theorem pcs_ful {W : gW} {l : List Nat} : (pcs W l (2 ^ W.g)).flatten.length = l.length := by
  rw [pcs_len, List.filter_eq_self.mpr (fun a _ => decide_eq_true (kb_ltg l a))]
