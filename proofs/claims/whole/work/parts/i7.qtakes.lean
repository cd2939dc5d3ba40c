/-! QUESTIONS in the reference: taking an answer in -/
theorem fhJ_id {σ : fhM} {t k : Nat} {x : Int64} (h : σ.2.1 t k = x) : fhJ σ t k x = σ := by
  refine Prod.ext rfl (Prod.ext (funext fun a => funext fun j => ?_) rfl)
  rw [fhJ_r]
  split
  · rename_i c
    rw [c.1, c.2, h]
  · rfl
theorem fhJ_e {σ : fhM} {t k : Nat} {x : Int64} : (fhJ σ t k x).2.1 t k = x := by rw [fhJ_r, if_pos ⟨rfl, rfl⟩]
theorem fhJ_J {σ : fhM} {t k : Nat} {x y : Int64} : fhJ (fhJ σ t k x) t k y = fhJ σ t k y := by
  refine Prod.ext rfl (Prod.ext (funext fun a => funext fun j => ?_) rfl)
  rw [fhJ_r, fhJ_r, fhJ_r]
  split <;> rfl
theorem lI_m1 : (-1 : Int64) = lI (-1) := by decide
theorem m_qTakes {q k : Nat} (hq : q ≤ 5) (hk : k < 5) {f : Nat → Int} (hf : ∀ i, i ≤ k → bnd (f i)) (ht : q < 3 → bt (f k)) {σ : fhM} (h6 : σ.2.1 0 106 = lI (ansQ q f k)) (h7 : σ.1 0 107 = nI (if k = 0 then 1 else 0)) :
    f_X12_qTakes (nI q) (lI (f k)) (nI k) σ = fhI (fhJ σ 0 106 (lI (ansQ q f (k + 1)))) 0 107 0 := by
  obtain ⟨b1, b2, b3, b4, b5, b6⟩ := q_bnd (f := f) (k := k) (fun i hi => hf i (by omega))
  have hfk := hf k (Nat.le_refl k)
  unfold bnd at b5 b6 hfk
  have tlk : Int32.toInt64 (nI k) = lI (k : Nat) := by rw [nI_l (by omega), lI_n (by omega)]
  have stay : lI (ansQ q f (k + 1)) = lI (ansQ q f k) → fhI σ 0 107 0 = fhI (fhJ σ 0 106 (lI (ansQ q f (k + 1)))) 0 107 0 := fun e => by
    rw [e, fhJ_id h6]
  have hq2 : q = 0 ∨ q = 1 ∨ q = 2 ∨ q = 3 ∨ q = 4 ∨ q = 5 := by omega
  have hit : ((lg_cmp (lI (f k)) (1 : Int64)) = 0) = (f k = 1) := by
    rw [propext (lg_cmp_eq _ _), lI_1, lI_eqP (by omega) (by omega) (by omega) (by omega)]
  rcases hq2 with rfl | rfl | rfl | rfl | rfl | rfl
  · -- first
    have hb := ht (by decide)
    unfold f_X12_qTakes
    rw [if_neg (show ¬ (3 : Int32) ≤ nI 0 by decide)]
    have e6 : ansQ 0 f k = fiQ f k := rfl
    rw [e6] at h6
    by_cases c : f k = 1
    · rw [if_pos (by rw [hit]; exact c)]
      unfold f_X12_qTakes_16
      rw [if_pos (show nI 0 = (0 : Int32) from rfl), if_neg (show ¬ (1 : Int32) = 0 by decide), h6]
      have nz : ¬ f k = 0 := by omega
      have ea : ansQ 0 f (k + 1) = if fiQ f k = -1 then ((k : Nat) : Int) else fiQ f k := if_neg nz
      by_cases d : fiQ f k = -1
      · rw [if_pos (by rw [lg_cmp_eq, lI_m1, lI_eqP (by omega) (by omega) (by omega) (by omega)]; exact d)]
        unfold f_X12_qTakes_48 f_X12_qTakes_55 f_X12_qTakes_75 f_X12_qTakes_90 f_X12_qTakes_133
        rw [if_neg (show ¬ nI 0 = (2 : Int32) by decide), if_neg (show ¬ nI 0 = (3 : Int32) by decide), if_pos (show nI 0 ≤ (3 : Int32) by decide), tlk, ea, if_pos d]
      · rw [if_neg (by rw [lg_cmp_eq, lI_m1, lI_eqP (by omega) (by omega) (by omega) (by omega)]; exact d)]
        unfold f_X12_qTakes_38 f_X12_qTakes_55 f_X12_qTakes_75 f_X12_qTakes_90 f_X12_qTakes_133
        rw [if_neg (show ¬ nI 0 = (1 : Int32) by decide), if_neg (show ¬ nI 0 = (2 : Int32) by decide), if_neg (show ¬ nI 0 = (3 : Int32) by decide), if_pos (show nI 0 ≤ (3 : Int32) by decide)]
        exact stay (by rw [ea, if_neg d]; rfl)
    · rw [if_neg (by rw [hit]; exact c)]
      unfold f_X12_qTakes_15 f_X12_qTakes_16
      rw [if_pos (show nI 0 = (0 : Int32) from rfl), if_pos (show (0 : Int32) = 0 from rfl)]
      unfold f_X12_qTakes_38 f_X12_qTakes_55 f_X12_qTakes_75 f_X12_qTakes_90 f_X12_qTakes_133
      rw [if_neg (show ¬ nI 0 = (1 : Int32) by decide), if_neg (show ¬ nI 0 = (2 : Int32) by decide), if_neg (show ¬ nI 0 = (3 : Int32) by decide), if_pos (show nI 0 ≤ (3 : Int32) by decide)]
      have z : f k = 0 := hb.resolve_right c
      exact stay (by rw [show ansQ 0 f (k + 1) = fiQ f k from if_pos z]; rfl)
  · -- last
    have hb := ht (by decide)
    unfold f_X12_qTakes
    rw [if_neg (show ¬ (3 : Int32) ≤ nI 1 by decide)]
    by_cases c : f k = 1
    · rw [if_pos (by rw [hit]; exact c)]
      unfold f_X12_qTakes_16 f_X12_qTakes_38
      rw [if_neg (show ¬ nI 1 = (0 : Int32) by decide), if_pos (show nI 1 = (1 : Int32) from rfl), if_neg (show ¬ (1 : Int32) = 0 by decide)]
      unfold f_X12_qTakes_48 f_X12_qTakes_55 f_X12_qTakes_75 f_X12_qTakes_90 f_X12_qTakes_133
      have nz : ¬ f k = 0 := by omega
      rw [if_neg (show ¬ nI 1 = (2 : Int32) by decide), if_neg (show ¬ nI 1 = (3 : Int32) by decide), if_pos (show nI 1 ≤ (3 : Int32) by decide), tlk, show ansQ 1 f (k + 1) = ((k : Nat) : Int) from if_neg nz]
    · rw [if_neg (by rw [hit]; exact c)]
      unfold f_X12_qTakes_15 f_X12_qTakes_16 f_X12_qTakes_38
      rw [if_neg (show ¬ nI 1 = (0 : Int32) by decide), if_pos (show nI 1 = (1 : Int32) from rfl), if_pos (show (0 : Int32) = 0 from rfl)]
      unfold f_X12_qTakes_55 f_X12_qTakes_75 f_X12_qTakes_90 f_X12_qTakes_133
      rw [if_neg (show ¬ nI 1 = (2 : Int32) by decide), if_neg (show ¬ nI 1 = (3 : Int32) by decide), if_pos (show nI 1 ≤ (3 : Int32) by decide)]
      have z : f k = 0 := hb.resolve_right c
      exact stay (by rw [show ansQ 1 f (k + 1) = laQ f k from if_pos z]; rfl)
  · -- often
    have hb := ht (by decide)
    unfold f_X12_qTakes
    rw [if_neg (show ¬ (3 : Int32) ≤ nI 2 by decide)]
    by_cases c : f k = 1
    · rw [if_pos (by rw [hit]; exact c)]
      unfold f_X12_qTakes_16 f_X12_qTakes_38 f_X12_qTakes_55
      rw [if_neg (show ¬ nI 2 = (0 : Int32) by decide), if_neg (show ¬ nI 2 = (1 : Int32) by decide), if_pos (show nI 2 = (2 : Int32) from rfl), if_neg (show ¬ (1 : Int32) = 0 by decide), h6]
      unfold f_X12_qTakes_75 f_X12_qTakes_90 f_X12_qTakes_133
      have nz : ¬ f k = 0 := by omega
      rw [if_neg (show ¬ nI 2 = (3 : Int32) by decide), if_pos (show nI 2 ≤ (3 : Int32) by decide), show ansQ 2 f (k + 1) = ofQ f k + 1 from if_neg nz, show ansQ 2 f k = ofQ f k from rfl, lI_1, lI_add]
    · rw [if_neg (by rw [hit]; exact c)]
      unfold f_X12_qTakes_15 f_X12_qTakes_16 f_X12_qTakes_38 f_X12_qTakes_55
      rw [if_neg (show ¬ nI 2 = (0 : Int32) by decide), if_neg (show ¬ nI 2 = (1 : Int32) by decide), if_pos (show nI 2 = (2 : Int32) from rfl), if_pos (show (0 : Int32) = 0 from rfl)]
      unfold f_X12_qTakes_75 f_X12_qTakes_90 f_X12_qTakes_133
      rw [if_neg (show ¬ nI 2 = (3 : Int32) by decide), if_pos (show nI 2 ≤ (3 : Int32) by decide)]
      have z : f k = 0 := hb.resolve_right c
      exact stay (by rw [show ansQ 2 f (k + 1) = ofQ f k from if_pos z]; rfl)
  · -- total
    unfold f_X12_qTakes
    rw [if_pos (show (3 : Int32) ≤ nI 3 by decide)]
    unfold f_X12_qTakes_15 f_X12_qTakes_16 f_X12_qTakes_38 f_X12_qTakes_55 f_X12_qTakes_75
    rw [if_neg (show ¬ nI 3 = (0 : Int32) by decide), if_neg (show ¬ nI 3 = (1 : Int32) by decide), if_neg (show ¬ nI 3 = (2 : Int32) by decide), if_pos (show nI 3 = (3 : Int32) from rfl), h6]
    unfold f_X12_qTakes_90 f_X12_qTakes_133
    rw [if_pos (show nI 3 ≤ (3 : Int32) by decide), show ansQ 3 f (k + 1) = toQ f k + f k from rfl, show ansQ 3 f k = toQ f k from rfl, lI_add]
  · -- most
    unfold f_X12_qTakes
    rw [if_pos (show (3 : Int32) ≤ nI 4 by decide)]
    unfold f_X12_qTakes_15 f_X12_qTakes_16 f_X12_qTakes_38 f_X12_qTakes_55 f_X12_qTakes_75 f_X12_qTakes_90
    rw [if_neg (show ¬ nI 4 = (0 : Int32) by decide), if_neg (show ¬ nI 4 = (1 : Int32) by decide), if_neg (show ¬ nI 4 = (2 : Int32) by decide), if_neg (show ¬ nI 4 = (3 : Int32) by decide), if_neg (show ¬ nI 4 ≤ (3 : Int32) by decide), h7, h6]
    have ea : ansQ 4 f (k + 1) = if k = 0 then f k else if moQ f k < f k then f k else moQ f k := rfl
    by_cases c : k = 0
    · rw [if_neg (show ¬ nI (if k = 0 then 1 else 0) = 0 by rw [if_pos c]; decide), ea, if_pos c]
      rfl
    · rw [if_pos (show nI (if k = 0 then 1 else 0) = 0 by rw [if_neg c]; rfl), if_pos (show nI 4 = (4 : Int32) from rfl), show ansQ 4 f k = moQ f k from rfl, ea, if_neg c]
      by_cases d : moQ f k < f k
      · rw [if_neg (by rw [lg_cmp_le, lI_leP (by omega) (by omega) (by omega) (by omega)]; omega), if_pos d]
        rfl
      · rw [if_pos (by rw [lg_cmp_le, lI_leP (by omega) (by omega) (by omega) (by omega)]; omega), if_neg d]
        have := stay (by rw [ea, if_neg c, if_neg d]; rfl)
        rw [ea, if_neg c, if_neg d] at this
        exact this
  · -- least
    unfold f_X12_qTakes
    rw [if_pos (show (3 : Int32) ≤ nI 5 by decide)]
    unfold f_X12_qTakes_15 f_X12_qTakes_16 f_X12_qTakes_38 f_X12_qTakes_55 f_X12_qTakes_75 f_X12_qTakes_90
    rw [if_neg (show ¬ nI 5 = (0 : Int32) by decide), if_neg (show ¬ nI 5 = (1 : Int32) by decide), if_neg (show ¬ nI 5 = (2 : Int32) by decide), if_neg (show ¬ nI 5 = (3 : Int32) by decide), if_neg (show ¬ nI 5 ≤ (3 : Int32) by decide), h7, h6]
    have ea : ansQ 5 f (k + 1) = if k = 0 then f k else if f k < leQ f k then f k else leQ f k := rfl
    by_cases c : k = 0
    · rw [if_neg (show ¬ nI (if k = 0 then 1 else 0) = 0 by rw [if_pos c]; decide), ea, if_pos c]
      rfl
    · rw [if_pos (show nI (if k = 0 then 1 else 0) = 0 by rw [if_neg c]; rfl), if_neg (show ¬ nI 5 = (4 : Int32) by decide), show ansQ 5 f k = leQ f k from rfl, ea, if_neg c]
      by_cases d : f k < leQ f k
      · rw [if_neg (by rw [lg_cmp_ge, lI_leP (by omega) (by omega) (by omega) (by omega)]; omega), if_pos d]
        rfl
      · rw [if_pos (by rw [lg_cmp_ge, lI_leP (by omega) (by omega) (by omega) (by omega)]; omega), if_neg d]
        have := stay (by rw [ea, if_neg c, if_neg d]; rfl)
        rw [ea, if_neg c, if_neg d] at this
        exact this
