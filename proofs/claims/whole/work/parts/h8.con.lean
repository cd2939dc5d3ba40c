/-! THE CLASS: on -/
def rowT (W : gW) (T : tT) : Nat → Nat
  | 0 => 0
  | k + 1 => rowT W T k + T.1 (2 + k) * W.m ^ k
def bitT (W : gW) (T : tT) (b : Nat) : Bool := (T.1 (2 + W.g + b / 8)).testBit (b % 8)
def preO (W : gW) (T : tT) : Prop := T.2 = psz W ∧ T.1 (psz W - 1) = chkN T.1 (psz W - 1) ∧ 256 * T.1 0 + T.1 1 ≤ 999 ∧ ∀ i, i < W.g → T.1 (2 + i) < W.m
def onO (W : gW) (T : tT) : Prop := preO W T ∧ (∀ b, b < 8 * nbt W → bitT W T b = true → W.al b = true) ∧ bitT W T (rowT W T W.g) = true
def onL (W : gW) (T : tT) (r : Nat) : Bool := decide (r < W.N) && bitT W T r
def onG (W : gW) (T : tT) : gG := (256 * T.1 0 + T.1 1, rowT W T W.g, onL W T, [])
theorem rowT_lt {W : gW} {T : tT} (hm : 0 < W.m) : ∀ {k}, (∀ i, i < k → T.1 (2 + i) < W.m) → rowT W T k < W.m ^ k
  | 0, _ => show 0 < 1 by decide
  | k + 1, h => by
    have ih := rowT_lt hm (k := k) (fun i hi => h i (by omega))
    have h1 := h k (Nat.lt_succ_self k)
    show rowT W T k + T.1 (2 + k) * W.m ^ k < W.m ^ (k + 1)
    rw [Nat.pow_succ]
    have h2 : (T.1 (2 + k) + 1) * W.m ^ k ≤ W.m * W.m ^ k := Nat.mul_le_mul_right _ h1
    rw [Nat.add_mul, Nat.one_mul] at h2
    rw [Nat.mul_comm (W.m ^ k) W.m]
    omega
section
variable {W : gW} {T : tT}
theorem c_rowOf (hW : wOK W) (hNm : W.N = W.m ^ W.g) (hm : 2 ≤ W.m) (hT : tOK T) {σ : fhM} (hrw : rwF W σ) (h5 : σ.1 39 5 = nI W.m) (h11 : σ.1 39 11 = nI W.N) (h41 : ∀ k, k < W.g → σ.1 41 k = nI (W.m ^ k)) (hx : cX T σ) : wq (f_X11_rowOfPicture (nI T.2) σ) (fun v => (preO W T ∧ v = nI (rowT W T W.g)) ∨ (¬ preO W T ∧ v = -1)) := by
  have hg5 := hW.1
  have hN10 := hW.2.1
  have hT1 := hT.1
  have hT2 := hT.2
  obtain ⟨hb1, hb2, hb3⟩ := nbt_le hW
  have hpz : psz W = 2 + W.g + nbt W + 1 := rfl
  have m4 := hW.2.2.2.1
  unfold f_X11_rowOfPicture
  rw [c_psz hW hrw.1 h11]
  by_cases c1 : T.2 = psz W
  · rw [if_pos (show nI T.2 = nI (psz W) by rw [c1]), nI_dec (by omega), c_chk (v0 := 1) (N0 := 1600) (f := T.1) rfl (by omega) (by decide) (fun j hj => hx j (by omega)) hT2, wq_bind, wq_some]
    have hck := chkN_lt T.1 (T.2 - 1)
    have h1 := hT2 (T.2 - 1)
    have h2 := hT2 0
    have h3 := hT2 1
    rw [c_get hT hx (show T.2 - 1 < T.2 by omega), show fcG σ 1 (0 : Int32) = nI (T.1 0) from c_get hT hx (i := 0) (by omega), show fcG σ 1 (1 : Int32) = nI (T.1 1) from c_get hT hx (i := 1) (by omega)]
    by_cases c2 : T.1 (T.2 - 1) = chkN T.1 (T.2 - 1)
    · rw [if_pos (show nI (T.1 (T.2 - 1)) = nI (chkN T.1 (T.2 - 1)) by rw [c2])]
      unfold f_X11_rowOfPicture_65
      rw [show (256 : Int32) = nI 256 from rfl, pk_mul, nI_add]
      · refine wq_for (R := fun k x => (x = (nI (rowT W T k), nI k) ∧ 256 * T.1 0 + T.1 1 ≤ 999 ∧ ∀ i, i < k → T.1 (2 + i) < W.m) ∨ (x = ((-1 : Int32), nI k) ∧ ¬ preO W T)) 0 W.g (Nat.zero_le _) ?_ ?_ ?_
        · rintro k x - hk (⟨rfl, q1, q2⟩ | ⟨rfl, q⟩)
          · (try dsimp only)
            unfold f_X11_rowOfPicture_68 fhlet f_X9_withMark
            (try dsimp only)
            have hlt := rowT_lt (W := W) (T := T) (by omega) q2
            have hle : W.m ^ k ≤ W.m ^ W.g := Nat.pow_le_pow_right (by omega) (by omega)
            have hb := hT2 (2 + k)
            rw [hrw.1, if_neg (nI_ge hk (by omega)), if_neg (ph_m1n (by omega)), show (2 : Int32) = nI 2 from rfl, nI_add, c_get hT hx (by omega), if_neg (by rw [nI_lt0 (by omega)]; exact id), h5]
            by_cases c : T.1 (2 + k) < W.m
            · have hd : rowT W T k / W.m ^ k % W.m = 0 := by rw [Nat.div_eq_of_lt hlt, Nat.zero_mod]
              rw [if_pos (nI_lt c (by omega)), c_markOf hW hrw (by omega) hk, show fcG σ 40 (nI k) = nI (W.m ^ k) from by rw [cg40 (by omega)]; exact h41 k hk, show nI (W.mk (rowT W T k) k) = nI (rowT W T k / W.m ^ k % W.m) from rfl, row_i (by omega) (by omega) (by omega) (by omega), nI_1, wq_some, fhK_l]
              refine Or.inl ⟨?_, q1, fun i hi => ?_⟩
              · unfold rowW
                rw [hd, Nat.zero_mul, Nat.sub_zero]
                rfl
              · rcases Nat.lt_or_ge i k with e | e
                · exact q2 i e
                · have : i = k := by omega
                  rw [this]
                  exact c
            · rw [if_neg (nI_nlt (by omega) (by omega)), nI_1, wq_some, fhK_l]
              exact Or.inr ⟨rfl, fun z => c (z.2.2.2 k hk)⟩
          · (try dsimp only)
            unfold f_X11_rowOfPicture_68
            rw [hrw.1, if_neg (nI_ge hk (by omega)), if_pos rfl, wq_some, fhK_r]
            exact Or.inr ⟨q, rfl⟩
        · rintro x (⟨rfl, q1, q2⟩ | ⟨rfl, q⟩)
          · (try dsimp only)
            unfold f_X11_rowOfPicture_68
            rw [hrw.1, if_pos (nI_le (Nat.le_refl _) (by omega)), wq_some, fhK_r]
            exact Or.inl ⟨⟨c1, by rw [← c1]; exact c2, q1, q2⟩, rfl⟩
          · (try dsimp only)
            unfold f_X11_rowOfPicture_68
            rw [hrw.1, if_pos (nI_le (Nat.le_refl _) (by omega)), wq_some, fhK_r]
            exact Or.inr ⟨q, rfl⟩
        · by_cases c : 256 * T.1 0 + T.1 1 ≤ 999
          · rw [if_neg (show ¬ (999 : Int32) < nI (T.1 0 * 256 + T.1 1) by rw [show (999 : Int32) = nI 999 from rfl, nI_ltP (by omega) (by omega)]; omega)]
            exact Or.inl ⟨rfl, c, fun i hi => absurd hi (Nat.not_lt_zero _)⟩
          · rw [if_pos (show (999 : Int32) < nI (T.1 0 * 256 + T.1 1) by rw [show (999 : Int32) = nI 999 from rfl, nI_ltP (by omega) (by omega)]; omega)]
            exact Or.inr ⟨rfl, fun z => c z.2.2.1⟩
    · rw [if_neg (show ¬ nI (T.1 (T.2 - 1)) = nI (chkN T.1 (T.2 - 1)) by rw [nI_e (by omega) (by omega)]; exact c2), wq_some]
      exact Or.inr ⟨fun z => c2 (by have := z.2.1; rw [← c1] at this; exact this), rfl⟩
  · rw [if_neg (show ¬ nI T.2 = nI (psz W) by rw [nI_e (by omega) (by omega)]; exact c1), wq_some]
    exact Or.inr ⟨fun z => c1 z.1, rfl⟩
theorem c_tapeBit (hW : wOK W) (hT : tOK T) {σ : fhM} (h9 : σ.1 39 9 = nI W.g) (hx : cX T σ) (hp : T.2 = psz W) {b : Nat} (hb : b < 8 * nbt W) : f_X11_tapeBit (nI b) σ = bitT W T b := by
  have hg5 := hW.1
  obtain ⟨hb1, hb2, hb3⟩ := nbt_le hW
  have hT2 := hT.2 (2 + W.g + b / 8)
  have hpz : psz W = 2 + W.g + nbt W + 1 := rfl
  have e7 : b &&& 7 = b % 8 := Nat.and_two_pow_sub_one_eq_mod _ 3
  unfold f_X11_tapeBit
  rw [h9, show (2 : Int32) = nI 2 from rfl, nI_add, show ((3 : Int32) &&& 31) = (nI 3 &&& 31) from rfl, ph_shr (by omega) (by omega), show 2 ^ 3 = 8 from rfl, nI_add, c_get hT hx (by omega), show (7 : Int32) = nI 7 from rfl, ph_and, e7]
  unfold bitT
  by_cases c : (T.1 (2 + W.g + b / 8)).testBit (b % 8) = true
  · rw [if_neg (by rw [ph_bit0P (by omega) (by omega), c]; decide), c]
  · rw [if_pos (by rw [ph_bit0P (by omega) (by omega)]; exact Bool.eq_false_iff.mpr c), Bool.eq_false_iff.mpr c]
theorem c_leftFit (hW : wOK W) (hT : tOK T) {σ : fhM} (htb : tbF W W.N σ) (hx : cX T σ) (hp : T.2 = psz W) {w : Nat} (hw : w < W.N) : wq (f_X11_isLeftFitting (nI w) σ) (fun v => (((∀ b, b < 8 * nbt W → bitT W T b = true → W.al b = true) ∧ bitT W T w = true) ∧ v = true) ∨ (¬ ((∀ b, b < 8 * nbt W → bitT W T b = true → W.al b = true) ∧ bitT W T w = true) ∧ v = false)) := by
  have hN10 := hW.2.1
  obtain ⟨hb1, hb2, hb3⟩ := nbt_le hW
  have h9 := htb.2.1
  have h47 := htb.2.2.2.2.2.2.2.2.2.1
  unfold f_X11_isLeftFitting fhlet
  (try dsimp only)
  have e8 : (((σ.1 39 11) + (7 : Int32)) / (8 : Int32)) * (8 : Int32) = nI (8 * nbt W) := by
    rw [htb.2.2.2.1, show (7 : Int32) = nI 7 from rfl, show (8 : Int32) = nI 8 from rfl, nI_add, nI_div (by omega) (by omega), pk_mul]
    unfold nbt
    congr 1
    omega
  rw [e8]
  · refine wq_for (R := fun k x => x = nI k ∧ ∀ b, b < k → bitT W T b = true → W.al b = true) 0 (8 * nbt W) (Nat.zero_le _) ?_ ?_ ⟨rfl, fun b hb => absurd hb (Nat.not_lt_zero _)⟩
    · rintro k x - hk ⟨rfl, q⟩
      unfold f_X11_isLeftFitting_19 f_X11_isLeftFitting_45
      rw [if_neg (nI_ge hk (by omega)), c_tapeBit hW hT h9 hx hp hk, nI_1]
      have ea : f_X9_isAllowed (nI k) σ = W.al k := by
        unfold f_X9_isAllowed
        rw [cg46 (by omega), h47 k (by omega)]
        have hc : (if k < W.N ∧ W.al k = true then 1 else 0) = if W.al k = true then 1 else 0 := by
          by_cases a : W.al k = true
          · rw [if_pos ⟨hW.2.2.2.2.2.2.1 k a, a⟩, if_pos a]
          · rw [if_neg (fun z => a z.2), if_neg a]
        rw [hc]
        cases W.al k <;> decide
      rw [ea]
      have go : bitT W T k = true → W.al k = true → ∀ b, b < k + 1 → bitT W T b = true → W.al b = true := fun _ h b hb hb2 => by
        rcases Nat.lt_or_ge b k with e | e
        · exact q b e hb2
        · have : b = k := by omega
          rw [this]
          exact h
      by_cases c : bitT W T k = true
      · rw [if_pos c]
        by_cases a : W.al k = true
        · rw [if_pos a, wq_some, fhK_l]
          exact ⟨rfl, go c a⟩
        · rw [if_neg a, wq_some, fhK_r]
          exact Or.inr ⟨fun z => a (z.1 k hk c), rfl⟩
      · rw [if_neg c, wq_some, fhK_l]
        refine ⟨rfl, fun b hb hb2 => ?_⟩
        rcases Nat.lt_or_ge b k with e | e
        · exact q b e hb2
        · have : b = k := by omega
          rw [this] at hb2
          exact absurd hb2 c
    · rintro x ⟨rfl, q⟩
      unfold f_X11_isLeftFitting_19
      rw [if_pos (nI_le (Nat.le_refl _) (by omega)), c_tapeBit hW hT h9 hx hp (by omega), wq_some, fhK_r]
      cases c : bitT W T w with
      | true => exact Or.inl ⟨⟨q, rfl⟩, rfl⟩
      | false => exact Or.inr ⟨fun z => (by cases z.2), rfl⟩
end
