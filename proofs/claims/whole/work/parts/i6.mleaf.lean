/-! QUESTIONS in the reference: what a guest is asked for -/
theorem lN_and1 : ∀ a, a < 32 → (lN a &&& (1 : Int64)) = lI (if a.testBit 0 = true then 1 else 0) := by decide +kernel
theorem sh_and1 {a k : Nat} (ha : a < 32) (hk : k < 5) : (Int32.toInt64 (nI a >>> (nI k &&& 31))) &&& (1 : Int64) = lI (if a.testBit k = true then 1 else 0) := by
  have hd : a / 2 ^ k < 32 := Nat.lt_of_le_of_lt (Nat.div_le_self _ _) ha
  rw [ph_shr (by omega) (by omega), nI_l (by omega), lN_and1 _ hd, Nat.testBit_div_two_pow, Nat.zero_add]
section
variable {W : gW} {L : Nat → Bool} {w0 rd i : Nat}
theorem mst_1 {σ : fhM} {n : Nat} {gg : Nat → Int64} {t j : Nat} (h : t ≠ 0 ∨ j ≠ 105) : (mst σ n gg).1 t j = σ.1 t j := by
  unfold mst
  rw [fhV_1, fhI_r, if_neg (by omega)]
theorem m_leafQ (hW : wOK W) {σ : fhM} (hrw : rwM' W σ) (h440 : σ.1 44 0 = nI rd) (h441 : σ.1 44 1 = nI w0) (h51 : σ.1 0 51 = nI i) (h47 : σ.1 47 i = nI (cnv W (rl W.N L) i (W.vw w0 i))) (h48 : σ.1 48 i = nI (msk W (rl W.N L) i (W.vw w0 i))) (h32 : ∀ i, i < W.g → σ.1 32 (5 + i) = nI (W.sb i)) (hw : w0 < W.N) (hi : i < W.g) (hr : rd ≤ 999) : lvM true W.g (lfQ W (rl W.N L) w0 rd i) (lkQ W (rl W.N L) w0 i) i σ := by
  have hg5 := hW.1
  have hN := hW.2.1
  have hmk := hW.2.2.2.2.1 w0 i hw
  have hsb := hW.2.2.2.2.2.2.2.2.1 i
  have hsb5 : W.sb i < 32 := Nat.lt_of_lt_of_le hsb (Nat.pow_le_pow_right (n := 2) (by decide) hg5)
  have hms : msk W (rl W.N L) i (W.vw w0 i) < 16 := msk_lt (rl_mk hW L i)
  have hcn := cnv_le W i (W.vw w0 i) (rl W.N L)
  have hll := rl_len W.N L
  have hm2 := hW.2.2.2.2.2.2.2.2.2 (by omega)
  have hm4 := hW.2.2.2.1
  have tl : ∀ {a : Nat}, a < 2 ^ 31 → (nI a).toInt64 = lI (a : Nat) := fun h => by rw [nI_l h, lI_n h]
  refine ⟨fun w hwk => ⟨lfQ_b hW hi hw hr w, fun n gg => ?_⟩, fun b n hb hn => ⟨lkQ_b W _ w0 i b n, fun k gg => ?_⟩⟩
  · have h2 : 10 ≤ w ∧ w ≤ 14 := by
      have hc : (decide (10 ≤ w) && decide (w ≤ 14)) = true := hwk
      rw [Bool.and_eq_true, decide_eq_true_iff, decide_eq_true_iff] at hc
      exact hc
    have hrw1 : rwM' W (mst σ n gg) := ⟨by rw [mst_1 (Or.inl (by decide))]; exact hrw.1, by rw [mst_1 (Or.inl (by decide))]; exact hrw.2.1, by rw [mst_1 (Or.inr (by decide))]; exact hrw.2.2.1, fun r i a b => by rw [mst_1 (Or.inl (by decide))]; exact hrw.2.2.2 r i a b⟩
    have q51 : (mst σ n gg).1 0 51 = nI i := by rw [mst_1 (Or.inr (by decide))]; exact h51
    have hw5 : w = 10 ∨ w = 11 ∨ w = 12 ∨ w = 13 ∨ w = 14 := by omega
    unfold f_X12_qPartOf lfQ
    rcases hw5 with rfl | rfl | rfl | rfl | rfl
    · rw [show rEnc (1, 10) - 40 = 4 from rfl]
      (repeat (first | rw [if_pos (by decide)] | rw [if_neg (by decide)]))
      rw [q51, tl (by omega)]
    · rw [show rEnc (1, 11) - 40 = 5 from rfl]
      (repeat (first | rw [if_pos (by decide)] | rw [if_neg (by decide)]))
      rw [q51, mst_1 (Or.inl (by decide)), h441, mk_mo hW hrw1 hw hi]
      show some (Int32.toInt64 (nI (W.mk w0 i))) = _
      rw [tl (by omega)]
    · rw [show rEnc (1, 12) - 40 = 6 from rfl]
      (repeat (first | rw [if_pos (by decide)] | rw [if_neg (by decide)]))
      rw [q51, if_pos (ph_in1 (k := i) (n := 5) (by omega) (by omega)), ph_ix (by omega), mst_1 (t := 47) (Or.inl (by decide)), h47, tl (by omega)]
      rfl
    · rw [show rEnc (1, 13) - 40 = 7 from rfl]
      (repeat (first | rw [if_pos (by decide)] | rw [if_neg (by decide)]))
      rw [q51, if_pos (ph_in1 (k := i) (n := 5) (by omega) (by omega)), ph_ix (by omega), mst_1 (t := 48) (Or.inl (by decide)), h48, m_isOne (by omega)]
      cases one (msk W (rl W.N L) i (W.vw w0 i)) <;> rfl
    · rw [show rEnc (1, 14) - 40 = 8 from rfl]
      (repeat (first | rw [if_pos (by decide)] | rw [if_neg (by decide)]))
      rw [mst_1 (Or.inl (by decide)), h440, tl (by omega)]
  · have h2 : b = 20 ∨ b = 25 := by
      have hb : (decide (b = 20) || decide (b = 25)) = true := hb
      rw [Bool.or_eq_true, decide_eq_true_iff, decide_eq_true_iff] at hb
      exact hb
    have hn' := hn
    unfold bnd at hn'
    have eL : lI n = (iI n).toInt64 := (iI_l (by omega) (by omega)).symm
    have eT : (iI n).toInt = n := iI_t (by omega) (by omega)
    have e6 : (mst σ k gg).1 29 6 = nI W.g := by rw [mst_1 (Or.inl (by decide))]; exact hrw.2.1
    have e5' : (mst σ k gg).1 29 5 = nI W.m := by rw [mst_1 (Or.inl (by decide))]; exact hrw.1
    have e55 : (5 : Int32) + nI i = nI (5 + i) := by rw [show (5 : Int32) = nI 5 from rfl, nI_add]
    have eN : 0 ≤ n → iI n = nI n.toNat := fun h => by rw [← iI_n (by omega), Int.toNat_of_nonneg h]
    unfold f_X12_qOf
    rcases h2 with rfl | rfl
    · rw [show rEnc (2, 20) - 60 = 1 from rfl, if_neg (show ¬ nI 1 = (0 : Int32) by decide), if_pos (show nI 1 = (1 : Int32) from rfl), eL]
      by_cases c : 0 ≤ n ∧ n < W.g
      · have hk : lkQ W (rl W.N L) w0 i 20 n = if (W.sb i).testBit n.toNat = true then 1 else 0 := by
          unfold lkQ
          rw [if_pos ⟨c.1, by omega⟩, if_pos rfl]
        rw [if_pos (show f_X12_isGuest (iI n).toInt64 (mst σ k gg) = true by rw [m_isG _ (by omega) e6]; exact ⟨by omega, by omega⟩), e55, if_pos (ph_in1 (by omega) (by omega)), ph_ix (by omega), mst_1 (Or.inl (by decide)), h32 i hi, ← eL, lI_i, eN c.1, sh_and1 hsb5 (by omega), hk]
      · have hk : lkQ W (rl W.N L) w0 i 20 n = 0 := by
          unfold lkQ
          by_cases d : 0 ≤ n ∧ n < 5
          · rw [if_pos d, if_pos rfl]
            have : (W.sb i).testBit n.toNat = false := Nat.testBit_lt_two_pow (Nat.lt_of_lt_of_le hsb (Nat.pow_le_pow_right (by decide) (by omega)))
            rw [this]
            rfl
          · rw [if_neg d]
        rw [if_neg (show ¬ f_X12_isGuest (iI n).toInt64 (mst σ k gg) = true by rw [m_isG _ (by omega) e6]; exact fun z => c ⟨by have := z.1; omega, by have := z.2; omega⟩), hk]
        rfl
    · rw [show rEnc (2, 25) - 60 = 2 from rfl, if_neg (show ¬ nI 2 = (0 : Int32) by decide), if_neg (show ¬ nI 2 = (1 : Int32) by decide), eL]
      unfold f_X12_markMany
      rw [e5']
      by_cases c : 0 ≤ n ∧ n < W.m
      · have hk : lkQ W (rl W.N L) w0 i 25 n = if (msk W (rl W.N L) i (W.vw w0 i)).testBit n.toNat = true then 1 else 0 := by
          unfold lkQ
          rw [if_pos ⟨c.1, by omega⟩, if_neg (by decide)]
        rw [if_pos (show f_X12_isIn (iI n).toInt64 (0 : Int64) (Int32.toInt64 (nI W.m - (1 : Int32))) (mst σ k gg) = true by rw [m_inB _ (by omega)]; exact ⟨by omega, by omega⟩), if_pos (ph_in1 (by omega) (by omega)), ph_ix (by omega), mst_1 (Or.inl (by decide)), h48, ← eL, lI_i, eN c.1, sh_and1 (by omega) (by omega), hk]
      · have hk : lkQ W (rl W.N L) w0 i 25 n = 0 := by
          unfold lkQ
          by_cases d : 0 ≤ n ∧ n < 5
          · rw [if_pos d, if_neg (by decide)]
            have : (msk W (rl W.N L) i (W.vw w0 i)).testBit n.toNat = false := by
              rw [Bool.eq_false_iff]
              intro z
              obtain ⟨r, -, -, h⟩ := (msk_bit W i (W.vw w0 i) (rl W.N L) n.toNat).mp z
              have : W.mk r i < W.m := Nat.mod_lt _ (by omega)
              omega
            rw [this]
            rfl
          · rw [if_neg d]
        rw [if_neg (show ¬ f_X12_isIn (iI n).toInt64 (0 : Int64) (Int32.toInt64 (nI W.m - (1 : Int32))) (mst σ k gg) = true by rw [m_inB _ (by omega)]; exact fun z => c ⟨by have := z.1; omega, by have := z.2; omega⟩), hk]
        rfl
end
