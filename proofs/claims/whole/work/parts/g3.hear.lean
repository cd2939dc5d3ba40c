/-! refusals; ANEW: what was heard -/
theorem nI_div {a b : Nat} (ha : a < 2 ^ 31) (hb : b < 2 ^ 31) : nI a / nI b = nI (a / b) := by
  have h1 : a / b ≤ a := Nat.div_le_self a b
  have hm : nI a ≠ Int32.minValue := by
    intro z
    have := nI_toInt ha
    rw [z] at this
    have e : Int32.minValue.toInt = -2147483648 := by decide
    omega
  refine Int32.toInt_inj.mp ?_
  rw [Int32.toInt_div_of_ne_left _ _ hm, nI_toInt ha, nI_toInt hb, nI_toInt (by omega)]
  exact (Int.ofNat_tdiv a b).symm
theorem c_refuse {k : Nat} (hk : k < 6) (σ : fhM) : f_X11_refuse (nI k) σ = ((-1 : Int32), fhI σ 101 k (σ.1 101 k + 1)) := by
  unfold f_X11_refuse
  rw [cg100 hk, cp100 hk]
theorem m_refuses {k : Nat} (hk : k < 6) (σ : fhM) : f_X12_refuses (nI k) σ = some ((-1 : Int32), fhI σ 2 k (σ.1 2 k + 1)) := by
  unfold f_X12_refuses
  rw [if_pos (in2 hk hk (by decide) (by decide)), ph_ix (by omega)]
theorem m_refused {k : Nat} (hk : k < 6) (σ : fhM) : f_X12_isRefused (nI k) σ = some (false, fhI σ 2 k (σ.1 2 k + 1)) := by
  unfold f_X12_isRefused
  rw [if_pos (in2 hk hk (by decide) (by decide)), ph_ix (by omega)]
def hrj (W : gW) (T : tT) (j : Nat) : Prop := T.1 (3 * j) ≤ 15 ∧ T.1 (3 * j + 1) < W.g ∧ T.1 (3 * j + 2) ≤ 1
def hrdO (W : gW) (T : tT) : Prop := T.2 % 3 = 0 ∧ 1 ≤ T.2 / 3 ∧ T.2 / 3 ≤ 16 ∧ ∀ j, j < T.2 / 3 → hrj W T j
section
variable {W : gW} {T : tT}
theorem c_hear (hW : wOK W) (hT : tOK T) {σ : fhM} (h1 : σ.1 0 1 = nI T.2) (hx : cX T σ) (h9 : σ.1 39 9 = nI W.g) :
    wq (f_X11_hear σ) (fun r => (hrdO W T ∧ r.1 = nI (T.2 / 3) ∧ ∃ t, r.2 = fhI (fhU (fhI σ 0 1 (0 : Int32)) 90 t) 76 13 (nI (T.2 / 3)) ∧ ∀ k, k < T.2 → t k = nI (T.1 k)) ∨ (¬ hrdO W T ∧ r = ((-1 : Int32), fhI (fhI σ 0 1 (0 : Int32)) 101 1 (σ.1 101 1 + 1)))) := by
  have hT1 := hT.1
  have hT2 := hT.2
  have hg5 := hW.1
  have hd : T.2 / 3 ≤ T.2 := Nat.div_le_self _ _
  have fin : ∀ {Q : Bool × fhM → Prop}, (¬ hrdO W T → Q (false, fhI σ 0 1 (0 : Int32))) → (hrdO W T → ∀ t, (∀ k, k < T.2 → t k = nI (T.1 k)) → Q (true, fhI (fhU (fhI σ 0 1 (0 : Int32)) 90 t) 76 13 (nI (T.2 / 3)))) → wq (f_X1_listen 1 (nI T.2) (fhI σ 0 1 (0 : Int32))) Q := by
    intro Q hn hy
    have hx1 : cX T (fhI σ 0 1 (0 : Int32)) := fun i hi => by rw [fhI_o (by decide)]; exact hx i hi
    have ge : ∀ {i}, i < T.2 → fcG (fhI σ 0 1 (0 : Int32)) 1 (nI i) = nI (T.1 i) := fun hi => c_get hT hx1 hi
    unfold f_X1_listen
    rw [show (3 : Int32) = nI 3 from rfl, nI_div (by omega) (by omega), pk_mul]
    by_cases c1 : T.2 % 3 = 0
    · rw [if_pos (by congr 1; omega)]
      by_cases c2 : 1 ≤ T.2 / 3
      · rw [if_neg (show ¬ nI (T.2 / 3) < (1 : Int32) by rw [show (1 : Int32) = nI 1 from rfl, nI_ltP (by omega) (by omega)]; omega)]
        by_cases c3 : T.2 / 3 ≤ 16
        · rw [if_pos (show nI (T.2 / 3) ≤ (16 : Int32) from nI_le (b := 16) c3 (by omega))]
          refine wq_for (R := fun j x => x = nI (3 * j) ∧ ∀ k, k < j → hrj W T k) 0 (T.2 / 3) (Nat.zero_le _) ?_ ?_ ⟨rfl, fun k hk => absurd hk (Nat.not_lt_zero _)⟩
          · rintro j x - hj ⟨rfl, hk⟩
            unfold f_X1_listen_27
            have g1 := hT2 (3 * j)
            have g2 := hT2 (3 * j + 1)
            have g3 := hT2 (3 * j + 2)
            rw [if_neg (nI_ge (by omega) (by omega)), show (2 : Int32) = nI 2 from rfl, show (3 : Int32) = nI 3 from rfl, nI_1, nI_add, nI_add, ge (by omega), ge (by omega), ge (by omega), fhI_o (show 39 ≠ 0 by decide), h9]
            by_cases d1 : T.1 (3 * j) ≤ 15
            · rw [if_neg (show ¬ (16 : Int32) ≤ nI (T.1 (3 * j)) by rw [show (16 : Int32) = nI 16 from rfl, nI_leP (by omega) (by omega)]; omega)]
              by_cases d2 : T.1 (3 * j + 1) < W.g
              · rw [if_neg (nI_ge d2 (by omega))]
                by_cases d3 : T.1 (3 * j + 2) ≤ 1
                · rw [if_pos (show nI (T.1 (3 * j + 2)) ≤ (1 : Int32) from nI_le (b := 1) d3 (by omega)), wq_some, fhK_l]
                  refine ⟨by congr 1, fun k hk2 => ?_⟩
                  rcases Nat.lt_or_ge k j with e | e
                  · exact hk k e
                  · have : k = j := by omega
                    rw [this]
                    exact ⟨d1, d2, d3⟩
                · rw [if_neg (show ¬ nI (T.1 (3 * j + 2)) ≤ (1 : Int32) by rw [show (1 : Int32) = nI 1 from rfl, nI_leP (by omega) (by omega)]; omega), wq_some, fhK_r]
                  exact hn (fun z => d3 (z.2.2.2 j hj).2.2)
              · rw [if_pos (nI_le (by omega) (by omega)), wq_some, fhK_r]
                exact hn (fun z => d2 (z.2.2.2 j hj).2.1)
            · rw [if_pos (show (16 : Int32) ≤ nI (T.1 (3 * j)) from nI_le (a := 16) (by omega) (by omega)), wq_some, fhK_r]
              exact hn (fun z => d1 (z.2.2.2 j hj).1)
          · rintro x ⟨rfl, hk⟩
            unfold f_X1_listen_27
            rw [if_pos (nI_le (by omega) (by omega)), wq_map]
            refine wq_for (R := fun k x => ∃ t, x = (nI k, fhU (fhI σ 0 1 (0 : Int32)) 90 t) ∧ ∀ j, j < k → t j = nI (T.1 j)) 0 T.2 (Nat.zero_le _) ?_ ?_ ⟨(fhI σ 0 1 (0 : Int32)).1 90, by rw [fhU_id (fun _ => rfl)]; rfl, fun k hk => absurd hk (Nat.not_lt_zero _)⟩
            · rintro k x - hk2 ⟨t, rfl, ht⟩
              (try dsimp only)
              unfold f_X1_listen_85
              rw [if_neg (nI_ge hk2 (by omega)), cp89 (by omega), fcG_U (by decide), ge hk2, fhU_I, nI_1, wq_some, fhK_l]
              refine ⟨_, rfl, fun j hj => ?_⟩
              (try dsimp only)
              by_cases q : j = k
              · rw [if_pos q, q]
              · rw [if_neg q]
                exact ht j (by omega)
            · rintro x ⟨t, rfl, ht⟩
              (try dsimp only)
              unfold f_X1_listen_85
              rw [if_pos (nI_le (Nat.le_refl _) (by omega)), wq_some, fhK_r, fhK_r]
              exact hy ⟨c1, c2, c3, hk⟩ t ht
        · rw [if_neg (show ¬ nI (T.2 / 3) ≤ (16 : Int32) by rw [show (16 : Int32) = nI 16 from rfl, nI_leP (by omega) (by omega)]; omega), wq_some]
          exact hn (fun z => c3 z.2.2.1)
      · rw [if_pos (show nI (T.2 / 3) < (1 : Int32) by rw [show (1 : Int32) = nI 1 from rfl, nI_ltP (by omega) (by omega)]; omega), wq_some]
        exact hn (fun z => c2 z.2.1)
    · rw [if_neg (by rw [nI_e (by omega) (by omega)]; omega), wq_some]
      exact hn (fun z => c1 z.1)
  unfold f_X11_hear f_X11_takeTape fhlet
  (try dsimp only)
  rw [h1, wq_bind]
  refine fin (fun hn => ?_) (fun hy t ht => ?_)
  · rw [if_neg (show ¬ false = true by decide), show (1 : Int32) = nI 1 from rfl, c_refuse (by decide), wq_some, fhI_o (show 101 ≠ 0 by decide)]
    exact Or.inr ⟨hn, rfl⟩
  · rw [if_pos rfl, wq_some]
    exact Or.inl ⟨hy, (by (try dsimp only); exact fhI_e), t, rfl, ht⟩
end
