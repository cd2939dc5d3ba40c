/-! DRAWING -/
def nx (s : Nat) : Nat := (1103515245 * s + 12345) % 2147483648
theorem nx_lt (s : Nat) : nx s < 2147483648 := Nat.mod_lt _ (by decide)
theorem c_nx (s : Nat) : (((1103515245 : Int32) * nI s) + (12345 : Int32)) &&& (2147483647 : Int32) = nI (nx s) := by
  rw [show (1103515245 : Int32) = nI 1103515245 from rfl, show (12345 : Int32) = nI 12345 from rfl, show (2147483647 : Int32) = nI 2147483647 from rfl, pk_mul, nI_add, ph_and, show (1103515245 * s + 12345) &&& 2147483647 = (1103515245 * s + 12345) % 2147483648 from Nat.and_two_pow_sub_one_eq_mod _ 31]
  rfl
theorem nI_64 {a : Nat} (ha : a < 2 ^ 31) : nI a / (64 : Int32) = nI (a / 64) := by
  have h1 : a / 64 ≤ a := Nat.div_le_self a 64
  have hm : nI a ≠ Int32.minValue := by
    intro z
    have := nI_toInt ha
    rw [z] at this
    have e : Int32.minValue.toInt = -2147483648 := by decide
    omega
  refine Int32.toInt_inj.mp ?_
  rw [show (64 : Int32) = nI 64 from rfl, Int32.toInt_div_of_ne_left _ _ hm, nI_toInt ha, nI_toInt (by decide), nI_toInt (by omega)]
  exact (Int.ofNat_tdiv a 64).symm
theorem c_draw {σ : fhM} {s n : Nat} (h : σ.1 0 16 = nI s) (h0 : 0 < n) (hn : n < 2 ^ 31) : f_X11_draw (nI n) σ = some (nI (nx s / 64 % n), fhI σ 0 16 (nI (nx s))) := by
  have := nx_lt s
  have h1 : nx s / 64 ≤ nx s := Nat.div_le_self _ _
  unfold f_X11_draw
  rw [if_neg (by rw [show (0 : Int32) = nI 0 from rfl]; exact nI_ge h0 hn), ph_nz hn h0, if_pos (show (true && true) = true from rfl), h, c_nx, nI_64 (by omega), ph_rem (by omega) h0 hn]
theorem lI_tB {v : Int} (h1 : -4611686018427387904 ≤ v) (h2 : v < 4611686018427387904) : (lI v).toInt = v := Int64.toInt_ofInt_of_le (by omega) (by omega)
theorem lI_remB {a b : Nat} (ha : a < 4611686018427387904) (hb : b < 4611686018427387904) : fhreml (lI a) (lI b) = lI ((a % b : Nat) : Int) := by
  have h1 : a / b ≤ a := Nat.div_le_self a b
  have h2 := Nat.div_add_mod a b
  have h4 : a / b * b = b * (a / b) := Nat.mul_comm _ _
  have hm : lI a ≠ Int64.minValue := by
    intro z
    have := lI_tB (v := (a : Int)) (by omega) (by omega)
    rw [z] at this
    have e : Int64.minValue.toInt = -9223372036854775808 := by decide
    omega
  have e1 : lI a / lI b = lI ((a / b : Nat) : Int) := by
    refine Int64.toInt_inj.mp ?_
    rw [Int64.toInt_div_of_ne_left _ _ hm, lI_tB (by omega) (by omega), lI_tB (by omega) (by omega), lI_tB (v := ((a / b : Nat) : Int)) (Int.le_trans (by decide) (Int.natCast_nonneg _)) (Int.lt_of_le_of_lt (Int.ofNat_le.mpr h1) (by omega))]
    exact (Int.ofNat_tdiv a b).symm
  unfold fhreml
  rw [e1, lI_mul, lI_sub]
  congr 1
  rw [← Int.natCast_mul, h4]
  omega
theorem m_draw {σ : fhM} {s n : Nat} (h : σ.2.1 0 73 = lN s) (hs : s < 2147483648) (h0 : 0 < n) (hn : n < 2 ^ 31) : f_X12_drawOf (nI n) σ = some (nI (nx s / 64 % n), fhJ σ 0 73 (lN (nx s))) := by
  have h1 := nx_lt s
  have h2 : nx s / 64 ≤ nx s := Nat.div_le_self _ _
  have h3 : nx s / 64 % n ≤ nx s / 64 := Nat.mod_le _ _
  have e0 : (nI n).toInt64 = lN n := by rw [← iI_n hn, iI_l (by omega) (by omega), lI_n hn]
  have e1 : fhreml (((1103515245 : Int64) * lN s) + (12345 : Int64)) (2147483648 : Int64) = lN (nx s) := by
    rw [← lI_n (show s < 2 ^ 31 by omega), show (1103515245 : Int64) = lI ((1103515245 : Nat) : Int) by decide +kernel, show (12345 : Int64) = lI ((12345 : Nat) : Int) by decide +kernel, show (2147483648 : Int64) = lI ((2147483648 : Nat) : Int) by decide +kernel, lI_mul, lI_add, ← Int.natCast_mul, ← Int.natCast_add, lI_remB (by omega) (by omega), ← lI_n (show nx s < 2 ^ 31 by omega)]
    rfl
  unfold f_X12_drawOf
  rw [e0, h, e1, show (64 : Int64) = lN 64 from rfl, lN_div (show nx s < 2 ^ 31 by omega) (by decide), lN_rem (show nx s / 64 < 2 ^ 31 by omega) hn, lN_iA (show nx s / 64 % n < 2 ^ 31 by omega)]
  have ez : fhnzl (lN n) = true := by
    unfold fhnzl
    rw [decide_eq_false (fun z => by
      have := lN_toInt hn
      rw [z] at this
      have e : (0 : Int64).toInt = 0 := rfl
      omega)]
    rfl
  rw [ez, if_pos (show (true && true) = true from rfl)]
