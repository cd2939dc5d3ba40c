/-! ANEW in the reference: tells -/
section
variable {W : gW} {H : tT}
def t3 (o : tlO) : Int32 := match o with | none => -1 | some x => nI x.1
def t4 (o : tlO) : Int32 := match o with | none => -1 | some x => nI x.2.1
def t5 (o : tlO) : Int32 := match o with | none => 0 | some x => nI x.2.2
theorem tlN_0 {l : List Nat} (hg : W.g = 0) : ∀ n, tlN W l n = none
  | 0 => rfl
  | n + 1 => by
    show tlI W l n (tlN W l n) W.g = none
    rw [hg, tlN_0 hg n]
    rfl
theorem m_tells110 {n : Nat} (hg : tlG W (fitL W H) (tlN W (fitL W H) n)) (σ : fhM) (v : Int32) (hg5 : W.g ≤ 5) : f_X12_tells_110 v (t3 (tlN W (fitL W H) n)) (t4 (tlN W (fitL W H) n)) (t5 (tlN W (fitL W H) n)) σ = some (tlV v (tlN W (fitL W H) n)) := by
  unfold f_X12_tells_110
  cases ho : tlN W (fitL W H) n with
  | none =>
    rw [if_pos (show t3 none = (-1 : Int32) from rfl)]
    rfl
  | some x =>
    obtain ⟨g1, g2, g3⟩ := hg x ho
    rw [if_neg (show ¬ t3 (some x) = (-1 : Int32) from ph_m1n (a := x.1) (by omega))]
    unfold tlV t3 t4 t5
    (try dsimp only)
    by_cases v0 : v = 0
    · rw [if_pos v0, if_pos v0]
    · rw [if_neg v0, if_neg v0]
      by_cases v1 : v = 1
      · rw [if_pos v1, if_pos v1]
      · rw [if_neg v1, if_neg v1]
theorem m_tells (hW : wOK W) {σ : fhM} (h6 : σ.1 29 6 = nI W.g) (h52 : σ.1 0 52 = nI W.N) (hal : alM W σ) (h : knT W σ) (hM : heM H σ) (hV : heV W H) (h47 : σ.1 0 47 = 0 → W.g = 0) (v : Int32) : f_X12_tells v σ = some (tlsA W H v) := by
  have hg5 := hW.1
  have hfl := fitL_le (W := W) (H := H) hW
  unfold f_X12_tells tlsA
  by_cases q47 : σ.1 0 47 = 0
  · rw [if_pos q47, tlN_0 (h47 q47)]
    split <;> rfl
  · rw [if_neg q47]
    by_cases d : inB v 3
    · rw [if_pos (show f_X12_isIn v.toInt64 (0 : Int64) (2 : Int64) σ = true by rw [show (0 : Int64) = lI 0 from rfl, show (2 : Int64) = lI 2 from rfl, m_inI v (by decide) (by decide) (by decide) (by decide)]; have := d.1; have := d.2; omega), m_fits hW h52 hal h hM hV q47, show ftsA W H (-1) = nI (fitL W H).length from if_pos rfl]
      refine wq_eq ?_
      rw [wq_bind, wq_some]
      by_cases z : (fitL W H).length = 0
      · rw [if_neg (fun q => by have := q.2; omega)]
        refine wq_step ?_
        (try dsimp only)
        unfold f_X12_tells_38
        rw [if_neg (by decide), if_pos (by rw [nI_le0 (by omega)]; exact z), wq_map]
        unfold f_X12_tells_110
        rw [if_pos rfl, wq_some, fhK_r]
      · rw [if_pos ⟨d, by omega⟩]
        refine wq_for (R := fun n x => x = (t3 (tlN W (fitL W H) n), t4 (tlN W (fitL W H) n), t5 (tlN W (fitL W H) n), nI n)) 0 16 (Nat.zero_le _) ?_ ?_ rfl
        · rintro n x - hn rfl
          (try dsimp only)
          unfold f_X12_tells_38
          rw [if_neg (show ¬ (15 : Int32) < nI n by rw [show (15 : Int32) = nI 15 from rfl, nI_ltP (by omega) (by omega)]; omega), if_neg (by rw [nI_le0 (by omega)]; exact z)]
          refine wq_for (R := fun i x => x = (t3 (tlI W (fitL W H) n (tlN W (fitL W H) n) i), t4 (tlI W (fitL W H) n (tlN W (fitL W H) n) i), t5 (tlI W (fitL W H) n (tlN W (fitL W H) n) i), nI i)) 0 W.g (Nat.zero_le _) ?_ ?_ rfl
          · rintro i x - hi rfl
            (try dsimp only)
            unfold f_X12_tells_52 f_X12_tells_87 f_X12_tells_98 f_X12_guestMany
            have hgd := tlI_g (W := W) (l := fitL W H) hn (tlN_g n (by omega)) i (by omega)
            have hm := ml_le W (fitL W H) n i
            rw [h6, if_neg (nI_ge hi (by omega)), m_mostA hW h52 hal h hM hV (by omega) hi, wq_bind, wq_some, nI_1 i]
            show wq _ (fhK (fun x => x = (t3 (tlS W (fitL W H) n (tlI W (fitL W H) n (tlN W (fitL W H) n) i) i), t4 (tlS W (fitL W H) n (tlI W (fitL W H) n (tlN W (fitL W H) n) i) i), t5 (tlS W (fitL W H) n (tlI W (fitL W H) n (tlN W (fitL W H) n) i) i), nI (i + 1))) _)
            generalize tlI W (fitL W H) n (tlN W (fitL W H) n) i = o at hgd
            unfold tlS
            cases o with
            | none =>
              rw [if_pos (show t3 none = (-1 : Int32) from rfl), wq_some, fhK_l]
              rfl
            | some y =>
              obtain ⟨g1, g2, g3⟩ := hgd y rfl
              have hy := ml_le W (fitL W H) y.1 y.2.1
              rw [if_neg (show ¬ t3 (some y) = (-1 : Int32) from ph_m1n (a := y.1) (by omega))]
              (try dsimp only)
              by_cases c : mlN W (fitL W H) n i < y.2.2
              · rw [if_pos (show nI (mlN W (fitL W H) n i) < t5 (some y) from nI_lt c (by omega)), if_pos c, wq_some, fhK_l]
                rfl
              · rw [if_neg (show ¬ nI (mlN W (fitL W H) n i) < t5 (some y) from by rw [show t5 (some y) = nI y.2.2 from rfl, nI_ltP (by omega) (by omega)]; exact c), if_neg c, wq_some, fhK_l]
          · rintro x rfl
            (try dsimp only)
            unfold f_X12_tells_52 f_X12_guestMany
            rw [h6, if_pos (nI_le (Nat.le_refl _) (by omega)), nI_1, wq_some, fhK_r, fhK_l]
            rfl
        · rintro x rfl
          (try dsimp only)
          unfold f_X12_tells_38
          rw [if_pos (show (15 : Int32) < nI 16 by decide), m_tells110 (tlN_g 16 (Nat.le_refl _)) σ v hg5, wq_map, wq_some, fhK_r]
    · rw [if_neg (show ¬ f_X12_isIn v.toInt64 (0 : Int64) (2 : Int64) σ = true by rw [show (0 : Int64) = lI 0 from rfl, show (2 : Int64) = lI 2 from rfl, m_inI v (by decide) (by decide) (by decide) (by decide)]; exact fun z => d ⟨z.1, by have := z.2; omega⟩), if_neg (c := inB v 3 ∧ 0 < (fitL W H).length) (fun z => d z.1)]
end
