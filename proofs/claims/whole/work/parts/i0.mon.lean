/-! THE REFERENCE: is that a picture? -/
section
variable {W : gW} {T : tT}
theorem m_bitA {x b : Nat} (hx : x < 256) (hb : b < 8) : ((nI x >>> (nI b &&& 31)) &&& (1 : Int32)) = bI (x.testBit b) := ph_bitA (by omega)
theorem m_twoAt (hT : tOK T) {σ : fhM} (hx : ∀ i, i < T.2 → σ.1 1 i = nI (T.1 i)) (h2 : 2 ≤ T.2) : f_X12_twoAt (0 : Int32) σ = some (nI (256 * T.1 0 + T.1 1)) := by
  have hT1 := hT.1
  unfold f_X12_twoAt
  rw [show ((0 : Int32) + (1 : Int32)) = nI 1 from rfl, show (0 : Int32) = nI 0 from rfl, if_pos (in2 (by omega) (by omega) (by decide) (by decide)), ph_ix (by omega), ph_ix (by omega), hx 0 (by omega), hx 1 (by omega), show (256 : Int32) = nI 256 from rfl, pk_mul, nI_add]
theorem m_isImg (hW : wOK W) (hNm : W.N = W.m ^ W.g) (hm : 2 ≤ W.m) (hT : tOK T) {σ : fhM} (hrw : rwM' W σ) (hal : alM W σ) (h47 : ¬ σ.1 0 47 = 0) (hx : ∀ i, i < T.2 → σ.1 1 i = nI (T.1 i)) : wq (f_X12_isImage (nI T.2) σ) (fun v => (onO W T ∧ v = true) ∨ (¬ onO W T ∧ v = false)) := by
  have hg5 := hW.1
  have hN10 := hW.2.1
  have hT1 := hT.1
  have hT2 := hT.2
  have m4 := hW.2.2.2.1
  obtain ⟨hb1, hb2, hb3⟩ := nbt_le hW
  have hpz : psz W = 2 + W.g + nbt W + 1 := rfl
  have e8 : ((8 : Int32) * (((σ.1 0 52) + (7 : Int32)) / (8 : Int32))) = nI (8 * nbt W) := by
    rw [hrw.2.2.1, show (7 : Int32) = nI 7 from rfl, show (8 : Int32) = nI 8 from rfl, nI_add, nI_div (by omega) (by omega), pk_mul]
    rfl
  unfold f_X12_isImage f_X12_guestMany
  rw [if_neg h47, hrw.2.1, show ((((2 : Int32) + nI W.g) + (((σ.1 0 52) + (7 : Int32)) / (8 : Int32))) + (1 : Int32)) = nI (psz W) from by
    rw [hrw.2.2.1, show (2 : Int32) = nI 2 from rfl, show (7 : Int32) = nI 7 from rfl, show (8 : Int32) = nI 8 from rfl, nI_add, nI_add, nI_div (by omega) (by omega), nI_add, nI_1]
    rfl]
  by_cases c1 : T.2 = psz W
  · have hck := chkN_lt T.1 (T.2 - 1)
    have h1 := hT2 (T.2 - 1)
    have b0 := hT2 0
    have b1 := hT2 1
    rw [if_pos (show nI T.2 = nI (psz W) by rw [c1]), nI_dec (by omega), if_pos (ph_in1 (by omega) (by omega)), ph_ix (by omega), m_chk (v0 := 1) (f := T.1) (by show _ ≤ 1600; omega) (by decide) (fun j hj => hx j (by omega)) hT2, wq_bind, wq_some, hx _ (by omega)]
    by_cases c2 : T.1 (T.2 - 1) = chkN T.1 (T.2 - 1)
    · rw [if_pos (show nI (T.1 (T.2 - 1)) = nI (chkN T.1 (T.2 - 1)) by rw [c2]), m_twoAt hT hx (by omega), wq_bind, wq_some]
      by_cases c3 : 256 * T.1 0 + T.1 1 ≤ 999
      · rw [if_pos (show nI (256 * T.1 0 + T.1 1) ≤ (999 : Int32) from nI_le (b := 999) c3 (by omega))]
        unfold fhlet
        (try dsimp only)
        rw [show (2 : Int32) = nI 2 from rfl, nI_add, nI_dec (by omega)]
        refine wq_for (R := fun j x => ∃ acc, x = (nI acc, nI (1 + (W.g - j))) ∧ rowT W T W.g = rowT W T (W.g - j) + W.m ^ (W.g - j) * acc ∧ ∀ i, W.g - j ≤ i → i < W.g → T.1 (2 + i) < W.m) 0 W.g (Nat.zero_le _) ?_ ?_ ⟨0, ?_, ?_, ?_⟩
        · rintro j x - hj ⟨acc, rfl, q1, q2⟩
          (try dsimp only)
          unfold f_X12_isImage_73 f_X12_markMany fhlet
          (try dsimp only)
          have hb := hT2 (1 + (W.g - j))
          rw [if_neg (show ¬ nI (1 + (W.g - j)) ≤ (1 : Int32) by rw [show (1 : Int32) = nI 1 from rfl, nI_leP (by omega) (by omega)]; omega), if_pos (ph_in1 (by omega) (by omega)), ph_ix (by omega), hx _ (by omega), hrw.1]
          by_cases c : T.1 (1 + (W.g - j)) < W.m
          · rw [if_pos (nI_lt c (by omega)), if_pos (ph_in1 (by omega) (by omega)), pk_mul, nI_add, nI_decm (by omega), wq_some, fhK_l]
            refine ⟨W.m * acc + T.1 (1 + (W.g - j)), by rw [show 1 + (W.g - j) - 1 = 1 + (W.g - (j + 1)) from by omega], ?_, fun i hi hi2 => ?_⟩
            · rw [q1, show W.g - j = W.g - (j + 1) + 1 from by omega]
              show rowT W T (W.g - (j + 1)) + T.1 (2 + (W.g - (j + 1))) * W.m ^ (W.g - (j + 1)) + _ = _
              rw [Nat.pow_succ, show 1 + (W.g - (j + 1) + 1) = 2 + (W.g - (j + 1)) from by omega]
              generalize W.m ^ (W.g - (j + 1)) = P
              generalize T.1 (2 + (W.g - (j + 1))) = c
              rw [Nat.mul_add, Nat.mul_assoc, Nat.mul_comm P c]
              omega
            · rcases Nat.lt_or_ge i (W.g - j) with e | e
              · have : i = W.g - (j + 1) := by omega
                rw [this, show 2 + (W.g - (j + 1)) = 1 + (W.g - j) from by omega]
                exact c
              · exact q2 i e hi2
          · rw [if_neg (nI_nlt (by omega) (by omega)), wq_some, fhK_r]
            refine Or.inr ⟨fun z => c ?_, rfl⟩
            have := z.1.2.2.2 (W.g - j - 1) (by omega)
            rw [show 2 + (W.g - j - 1) = 1 + (W.g - j) from by omega] at this
            exact this
        · rintro x ⟨acc, rfl, q1, q2⟩
          (try dsimp only)
          unfold f_X12_isImage_73
          rw [Nat.sub_self] at q1 q2 ⊢
          have hacc : acc = rowT W T W.g := by
            rw [q1]
            show acc = 0 + 1 * acc
            omega
          rw [hacc]
          have hp : preO W T := ⟨c1, by rw [← c1]; exact c2, c3, fun i hi => q2 i (Nat.zero_le _) hi⟩
          have hwN : rowT W T W.g < W.N := by
            rw [hNm]
            exact rowT_lt (by omega) hp.2.2.2
          generalize hw : rowT W T W.g = w at hwN
          rw [if_pos (show nI (1 + 0) ≤ (1 : Int32) by decide), wq_map]
          have bad : ∀ b, b < 8 * nbt W → bitT W T b = true → ¬ W.al b = true → ¬ onO W T := fun b h1 h2 h3 z => h3 (z.2.1 b h1 h2)
          refine wq_for (R := fun b x => x = nI b ∧ (∀ c, c < b → bitT W T c = true → W.al c = true) ∧ (w < b → bitT W T w = true)) 0 (8 * nbt W) (Nat.zero_le _) ?_ ?_ ⟨rfl, fun c hc => absurd hc (Nat.not_lt_zero _), fun z => absurd z (Nat.not_lt_zero _)⟩
          · rintro b x - hb ⟨rfl, r1, r2⟩
            unfold f_X12_isImage_119 f_X12_isImage_166 f_X12_isImage_192 f_X12_isImage_205
            have ht := hT2 (2 + W.g + b / 8)
            rw [e8, if_neg (nI_ge hb (by omega)), show (8 : Int32) = nI 8 from rfl, nI_div (by omega) (by omega), nI_add, show fhrem (nI b) (nI 8) = nI (b % 8) from ph_rem (by omega) (by omega) (by omega), if_pos (ph_in1 (by omega) (by omega)), ph_ix (by omega), hx _ (by omega), m_bitA ht (by omega), nI_1]
            have next : (bitT W T b = true → W.al b = true) → (b = w → bitT W T b = true) → (nI (b + 1) = nI (b + 1) ∧ (∀ c, c < b + 1 → bitT W T c = true → W.al c = true) ∧ (w < b + 1 → bitT W T w = true)) := fun s1 s2 => by
              refine ⟨rfl, fun c hc hc2 => ?_, fun z => ?_⟩
              · rcases Nat.lt_or_ge c b with e | e
                · exact r1 c e hc2
                · have : c = b := by omega
                  rw [this] at hc2 ⊢
                  exact s1 hc2
              · rcases Nat.lt_or_ge w b with e | e
                · exact r2 e
                · have : b = w := by omega
                  rw [← this]
                  exact s2 this
            by_cases c : (T.1 (2 + W.g + b / 8)).testBit (b % 8) = true
            · rw [c, if_neg (show ¬ (if bI true = (1 : Int32) then (1 : Int32) else 0) = 0 by decide)]
              by_cases n : W.N ≤ b
              · rw [hrw.2.2.1, if_pos (nI_le n (by omega)), wq_some, fhK_r, fhK_r]
                exact Or.inr ⟨bad b hb c (fun z => by have := hW.2.2.2.2.2.2.1 b z; omega), rfl⟩
              · rw [hrw.2.2.1, if_neg (nI_ge (by omega) (by omega)), if_pos (ph_in1 (by omega) (by omega)), ph_ix (by omega), hal b (by omega)]
                by_cases a : W.al b = true
                · rw [if_neg (by rw [al01]; exact not_not_intro a), if_neg (show ¬ (if bI true = (1 : Int32) then (1 : Int32) else 0) = 0 by decide), wq_some, fhK_l]
                  exact next (fun _ => a) (fun _ => c)
                · rw [if_pos (by rw [al01]; exact a), wq_some, fhK_r, fhK_r]
                  exact Or.inr ⟨bad b hb c a, rfl⟩
            · rw [Bool.eq_false_iff.mpr c, if_pos (show (if bI false = (1 : Int32) then (1 : Int32) else 0) = 0 by decide), if_pos (show (if bI false = (1 : Int32) then (1 : Int32) else 0) = 0 by decide)]
              by_cases a : b = w
              · rw [if_pos (by rw [a]), wq_some, fhK_r, fhK_r]
                refine Or.inr ⟨fun z => c ?_, rfl⟩
                have := z.2.2
                rw [hw, ← a] at this
                exact this
              · rw [if_neg (by rw [nI_e (by omega) (by omega)]; exact a), wq_some, fhK_l]
                exact next (fun z => absurd z c) (fun z => absurd z a)
          · rintro x ⟨rfl, r1, r2⟩
            unfold f_X12_isImage_119
            rw [e8, if_pos (nI_le (Nat.le_refl _) (by omega)), wq_some, fhK_r, fhK_r]
            exact Or.inl ⟨⟨hp, r1, by rw [hw]; exact r2 (by omega)⟩, rfl⟩
        · rw [show 2 + W.g - 1 = 1 + (W.g - 0) from by omega]
          rfl
        · rw [Nat.sub_zero, Nat.mul_zero, Nat.add_zero]
        · exact fun i hi hi2 => absurd hi2 (by omega)
      · rw [if_neg (show ¬ nI (256 * T.1 0 + T.1 1) ≤ (999 : Int32) by rw [show (999 : Int32) = nI 999 from rfl, nI_leP (by omega) (by omega)]; exact c3), wq_some]
        exact Or.inr ⟨fun z => c3 z.1.2.2.1, rfl⟩
    · rw [if_neg (show ¬ nI (T.1 (T.2 - 1)) = nI (chkN T.1 (T.2 - 1)) by rw [nI_e (by omega) (by omega)]; exact c2), wq_some]
      exact Or.inr ⟨fun z => c2 (by have := z.1.2.1; rw [← c1] at this; exact this), rfl⟩
  · rw [if_neg (show ¬ nI T.2 = nI (psz W) by rw [nI_e (by omega) (by omega)]; exact c1), wq_some]
    exact Or.inr ⟨fun z => c1 z.1.1, rfl⟩
end
