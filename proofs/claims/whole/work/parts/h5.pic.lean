/-! PICTURES: their bytes -/
def lbN (L : Nat → Bool) (q : Nat) : Nat → Nat
  | 0 => 0
  | k + 1 => lbN L q k ||| (if L (8 * q + k) = true then 2 ^ k else 0)
def picF (W : gW) (G : gG) (j : Nat) : Nat := if j = 0 then G.rd / 256 else if j = 1 then G.rd % 256 else if j < 2 + W.g then W.mk G.w (j - 2) else lbN G.L (j - 2 - W.g) 8
def nbt (W : gW) : Nat := (W.N + 7) / 8
def psz (W : gW) : Nat := 2 + W.g + nbt W + 1
def chkN (f : Nat → Nat) : Nat → Nat
  | 0 => 197
  | n + 1 => (3 * chkN f n + f n) % 251
theorem chkN_lt (f : Nat → Nat) : ∀ n, chkN f n < 251
  | 0 => show 197 < 251 by decide
  | n + 1 => Nat.mod_lt _ (by decide)
theorem chkN_cg {f g : Nat → Nat} : ∀ {n}, (∀ j, j < n → f j = g j) → chkN f n = chkN g n
  | 0, _ => rfl
  | n + 1, h => by
    show (3 * chkN f n + f n) % 251 = (3 * chkN g n + g n) % 251
    rw [chkN_cg (fun j hj => h j (by omega)), h n (Nat.lt_succ_self n)]
theorem nbt_le {W : gW} (hW : wOK W) : nbt W ≤ 128 ∧ 8 * nbt W ≤ 1024 ∧ W.N ≤ 8 * nbt W := by
  have := hW.2.1
  unfold nbt
  omega
theorem lbN_lt (L : Nat → Bool) (q : Nat) : ∀ k, lbN L q k < 2 ^ k
  | 0 => show 0 < 1 by decide
  | k + 1 => by
    have h1 := lbN_lt L q k
    have h2 : 2 ^ k < 2 ^ (k + 1) := Nat.pow_lt_pow_right (by decide) (Nat.lt_succ_self k)
    refine Nat.or_lt_two_pow (by omega) ?_
    split
    · exact h2
    · exact Nat.pow_pos (by decide)
theorem lbN_bit (L : Nat → Bool) (q : Nat) : ∀ k b, (lbN L q k).testBit b = (decide (b < k) && L (8 * q + b))
  | 0, b => by
    show (0 : Nat).testBit b = _
    rw [Nat.zero_testBit, decide_eq_false (Nat.not_lt_zero b), Bool.false_and]
  | k + 1, b => by
    show (lbN L q k ||| (if L (8 * q + k) = true then 2 ^ k else 0)).testBit b = _
    rw [Nat.testBit_or, lbN_bit L q k b]
    by_cases e : b = k
    · subst e
      rw [decide_eq_false (Nat.lt_irrefl b), decide_eq_true (Nat.lt_succ_self b), Bool.false_and, Bool.false_or, Bool.true_and]
      split
      · rename_i h
        rw [Nat.testBit_two_pow_self, h]
      · rename_i h
        rw [Nat.zero_testBit, Bool.eq_false_iff.mpr h]
    · have e2 : (if L (8 * q + k) = true then 2 ^ k else 0).testBit b = false := by
        split
        · rw [Nat.testBit_two_pow]
          exact decide_eq_false (fun z => e z.symm)
        · exact Nat.zero_testBit b
      rw [e2, Bool.or_false]
      by_cases c : b < k
      · rw [decide_eq_true c, decide_eq_true (show b < k + 1 by omega)]
      · rw [decide_eq_false c, decide_eq_false (show ¬ b < k + 1 by omega)]
theorem picF_lt {W : gW} (hW : wOK W) {G : gG} (hr : G.rd ≤ 999) (hw : 0 < W.g → G.w < W.N) (j : Nat) : picF W G j < 256 := by
  unfold picF
  split
  · omega
  · split
    · omega
    · split
      · rename_i h1 h2 h3
        have := hW.2.2.2.2.1 G.w (j - 2) (hw (by omega))
        omega
      · exact lbN_lt _ _ 8
/-- the rows left, as a byte, from a list -/
def bbL (l : List Nat) (q : Nat) : Nat := l.foldl (fun a r => if r / 8 = q then a ||| 2 ^ (r % 8) else a) 0
theorem bbL_s (l : List Nat) (x q : Nat) : bbL (l ++ [x]) q = if x / 8 = q then bbL l q ||| 2 ^ (x % 8) else bbL l q := by
  unfold bbL
  rw [List.foldl_append]
  rfl
theorem bbL_rl (L : Nat → Bool) (q : Nat) : ∀ n, bbL (rl n L) q = (if n ≤ 8 * q then 0 else if n < 8 * q + 8 then lbN L q (n - 8 * q) else lbN L q 8)
  | 0 => by
    rw [if_pos (Nat.zero_le _)]
    rfl
  | n + 1 => by
    have ih := bbL_rl L q n
    rw [rl_s]
    have val : ∀ {x y : Nat}, x / 8 = y ↔ 8 * y ≤ x ∧ x < 8 * y + 8 := fun {x y} => by omega
    by_cases c : n / 8 = q
    · have c2 := val.mp c
      have hih : bbL (rl n L) q = lbN L q (n - 8 * q) := by
        rw [ih]
        split
        · have : n - 8 * q = 0 := by omega
          rw [this]
          rfl
        · rw [if_pos (by omega)]
      have goal2 : (if n + 1 ≤ 8 * q then 0 else if n + 1 < 8 * q + 8 then lbN L q (n + 1 - 8 * q) else lbN L q 8) = lbN L q (n - 8 * q + 1) := by
        rw [if_neg (by omega)]
        split
        · rw [show n + 1 - 8 * q = n - 8 * q + 1 from by omega]
        · rw [show n - 8 * q + 1 = 8 from by omega]
      rw [goal2]
      show _ = lbN L q (n - 8 * q) ||| (if L (8 * q + (n - 8 * q)) = true then 2 ^ (n - 8 * q) else 0)
      rw [show 8 * q + (n - 8 * q) = n from by omega]
      by_cases a : L n = true
      · rw [if_pos a, if_pos a, bbL_s, if_pos c, hih, show n % 8 = n - 8 * q from by omega]
      · rw [if_neg a, if_neg a, hih, Nat.or_zero]
    · have c2 : ¬ (8 * q ≤ n ∧ n < 8 * q + 8) := fun z => c (val.mpr z)
      have e : bbL (if L n = true then rl n L ++ [n] else rl n L) q = bbL (rl n L) q := by
        split
        · rw [bbL_s, if_neg c]
        · rfl
      rw [e, ih]
      by_cases d : n ≤ 8 * q
      · rw [if_pos d, if_pos (by omega)]
      · rw [if_neg d, if_neg (by omega), if_neg (by omega), if_neg (by omega)]
theorem bbL_lin {W : gW} {L : Nat → Bool} (h : lin W L) {q : Nat} : bbL (rl W.N L) q = lbN L q 8 := by
  have hf : ∀ r, W.N ≤ r → L r = false := fun r hr => lin_f h hr
  have up : ∀ k j, W.N ≤ 8 * q + k → lbN L q (k + j) = lbN L q k := by
    intro k j
    induction j with
    | zero => exact fun _ => rfl
    | succ j ih =>
      intro hk
      show lbN L q (k + j) ||| (if L (8 * q + (k + j)) = true then 2 ^ (k + j) else 0) = _
      rw [hf _ (by omega), if_neg (by decide), Nat.or_zero, ih hk]
  rw [bbL_rl]
  split
  · rename_i c
    have := up 0 8 (by omega)
    rw [Nat.zero_add] at this
    exact this.symm
  · split
    · rename_i c d
      have := up (W.N - 8 * q) (8 - (W.N - 8 * q)) (by omega)
      rw [show W.N - 8 * q + (8 - (W.N - 8 * q)) = 8 from by omega] at this
      exact this.symm
    · rfl
theorem c_chk {v0 N0 n : Nat} {f : Nat → Nat} {σ : fhM} (hN : fcL v0 = N0) (hn : n ≤ N0) (hN2 : N0 < 2 ^ 31) (hf : ∀ j, j < n → σ.1 (v0 + 1) j = nI (f j)) (hl : ∀ j, f j < 256) : f_X11_checkByte v0 (nI n) σ = some (nI (chkN f n)) := by
  refine wq_eq ?_
  unfold f_X11_checkByte
  refine wq_for (R := fun k x => x = (nI (chkN f k), nI k)) 0 n (Nat.zero_le _) ?_ ?_ rfl
  · rintro k x - hk rfl
    (try dsimp only)
    unfold f_X11_checkByte_6 fhlet
    (try dsimp only)
    have h1 := chkN_lt f k
    have h2 := hl k
    rw [if_neg (nI_ge hk (by omega)), fcG_at hN (by omega) (by omega), hf k hk, show (3 : Int32) = nI 3 from rfl, show (251 : Int32) = nI 251 from rfl, pk_mul, nI_add, ph_rem (by omega) (by omega) (by omega), nI_1, wq_some, fhK_l]
    rfl
  · rintro x rfl
    (try dsimp only)
    unfold f_X11_checkByte_6
    rw [if_pos (nI_le (Nat.le_refl _) (by omega)), wq_some, fhK_r]
theorem m_chk {v0 n : Nat} {f : Nat → Nat} {σ : fhM} (hn : n ≤ (fhYM.1 v0).2.2) (hN2 : (fhYM.1 v0).2.2 < 2 ^ 31) (hf : ∀ j, j < n → σ.1 v0 j = nI (f j)) (hl : ∀ j, f j < 256) : f_X12_checked v0 (nI n) σ = some (nI (chkN f n)) := by
  refine wq_eq ?_
  unfold f_X12_checked
  refine wq_for (R := fun k x => x = (nI (chkN f k), nI k)) 0 n (Nat.zero_le _) ?_ ?_ rfl
  · rintro k x - hk rfl
    (try dsimp only)
    unfold f_X12_checked_6 fhlet
    (try dsimp only)
    have h1 := chkN_lt f k
    have h2 := hl k
    rw [if_neg (nI_ge hk (by omega)), if_pos (ph_in1 (by omega) (by omega)), ph_ix (by omega), hf k hk, show (3 : Int32) = nI 3 from rfl, show (251 : Int32) = nI 251 from rfl, pk_mul, nI_add, ph_rem (by omega) (by omega) (by omega), nI_1, wq_some, fhK_l]
    rfl
  · rintro x rfl
    (try dsimp only)
    unfold f_X12_checked_6
    rw [if_pos (nI_le (Nat.le_refl _) (by omega)), wq_some, fhK_r]
