/-! ANEW: slowest in the reference; odds -/
section
variable {W : gW}
theorem m_slowest (hW : wOK W) {σ : fhM} (h6 : σ.1 29 6 = nI W.g) (h52 : σ.1 0 52 = nI W.N) (hal : alM W σ) (h : knT W σ) (v w : Int32) : f_X12_slowest v w σ = some (slwA W v w) := by
  have hg5 := hW.1
  have hN10 := hW.2.1
  unfold f_X12_slowest slwA
  by_cases c : inB v W.g
  · rw [if_pos (by rw [m_isG v (by omega) h6]; exact c)]
    by_cases d : inB w 2
    · obtain ⟨e, hi⟩ := inB_e c
      rw [if_pos (show f_X12_isIn w.toInt64 (0 : Int64) (1 : Int64) σ = true by rw [show (0 : Int64) = lI 0 from rfl, show (1 : Int64) = lI 1 from rfl, m_inI w (by decide) (by decide) (by decide) (by decide)]; have := d.1; have := d.2; omega), if_pos ⟨c, d⟩]
      generalize v.toInt.toNat = i at e hi
      subst e
      refine wq_eq ?_
      refine wq_for (R := fun x y => y = (o1 (slL W i (rl x W.al)), o2 (slL W i (rl x W.al)), nI x)) 0 W.N (Nat.zero_le _) ?_ ?_ rfl
      · rintro x y - hx rfl
        (try dsimp only)
        unfold f_X12_slowest_29 f_X12_slowest_101
        rw [h52, if_neg (nI_ge hx (by omega)), if_pos (ph_in1 (by omega) (by omega)), ph_ix (by omega), hal x hx]
        by_cases q : W.al x = true
        · have hf := fk_le W x i
          have hb : ∀ y, slL W i (rl x W.al) = some y → y.2 < 2 ^ 31 := fun y hy => slL_b (rl x W.al).length (rl x W.al) y (by rw [List.take_length]; exact hy)
          rw [if_neg (by rw [al01]; exact not_not_intro q), show (20 : Int32) = nI 20 from rfl, m_knewAt hW h (Nat.le_refl _) q hi, wq_bind, wq_some]
          have e1 := slS_2 (W := W) (i := i) (r := x) hb true
          have e2 := slS_2 (W := W) (i := i) (r := x) hb false
          rw [if_pos rfl, if_pos rfl, if_pos rfl] at e1
          rw [if_neg (show ¬ false = true by decide), if_neg (show ¬ false = true by decide), if_neg (show ¬ false = true by decide)] at e2
          rw [rl_s, if_pos q, slL_s, ← e1, ← e2]
          by_cases k : fk W x i ≤ 20
          · rw [if_pos (decide_eq_true k)]
            refine wq_for (R := fun n y => y = nI n) 0 (fk W x i) (Nat.zero_le _) ?_ ?_ rfl
            · rintro n y - hn rfl
              unfold f_X12_slowest_66
              rw [m_knewAt hW h (by omega) q hi, wq_bind, wq_some, if_neg (by rw [decide_eq_true_iff]; omega), nI_1, wq_some, fhK_l]
            · rintro y rfl
              unfold f_X12_slowest_66 f_X12_slowest_101
              rw [m_knewAt hW h k q hi, wq_bind, wq_some, if_pos (decide_eq_true (Nat.le_refl _)), nI_1, wq_map, wq_some, fhK_r, fhK_l]
              have n20 : ¬ 20 < fk W x i := by omega
              rw [if_neg n20, if_neg n20]
              by_cases z : o2 (slL W i (rl x W.al)) < nI (fk W x i)
              · have z2 : ¬ nI (fk W x i) ≤ o2 (slL W i (rl x W.al)) := Int32.not_le.mpr z
                rw [if_pos z, if_pos z, if_neg z2, if_neg z2]
              · have z2 : nI (fk W x i) ≤ o2 (slL W i (rl x W.al)) := Int32.not_lt.mp z
                rw [if_neg z, if_neg z, if_pos z2, if_pos z2]
          · rw [if_neg (by rw [decide_eq_true_iff]; exact k), nI_1, wq_some, fhK_l]
            have n20 : 20 < fk W x i := by omega
            rw [if_pos n20, if_pos n20]
        · rw [if_pos (by rw [al01]; exact q), nI_1, wq_some, fhK_l, rl_s, if_neg q]
      · rintro y rfl
        (try dsimp only)
        unfold f_X12_slowest_29 slwV
        rw [h52, if_pos (nI_le (Nat.le_refl _) (by omega))]
        by_cases z : w = 0
        · rw [if_pos z, if_pos z, wq_some, fhK_r]
        · rw [if_neg z, if_neg z, wq_some, fhK_r]
    · rw [if_neg (show ¬ f_X12_isIn w.toInt64 (0 : Int64) (1 : Int64) σ = true by rw [show (0 : Int64) = lI 0 from rfl, show (1 : Int64) = lI 1 from rfl, m_inI w (by decide) (by decide) (by decide) (by decide)]; exact fun z => d ⟨z.1, by have := z.2; omega⟩), if_neg (c := inB v W.g ∧ inB w 2) (fun z => d z.2)]
  · rw [if_neg (by rw [m_isG v (by omega) h6]; exact c), if_neg (c := inB v W.g ∧ inB w 2) (fun z => c z.1)]
/-- odds -/
def oddA (W : gW) (v w : Int32) : Int32 := if inB v W.g ∧ inB w 21 then nI (cnP (rl W.N W.al) (fun r => decide (fk W r v.toInt.toNat ≤ w.toInt.toNat))) else -1
theorem c_odds (hW : wOK W) {σ : fhM} (htb : tbF W W.N σ) (hz : psF σ) (hne : 0 < W.g → rl W.N W.al ≠ []) (h : anC W σ) (v w : Int32) : wq (f_X11_odds v w σ) (fun r => r.1 = oddA W v w ∧ anC W r.2 ∧ anP σ r.2) := by
  have hg5 := hW.1
  have hN10 := hW.2.1
  have hll := rl_len W.N W.al
  unfold f_X11_odds oddA
  by_cases c : inB v W.g
  · rw [if_pos (by rw [c_isG v (by omega) htb.2.1]; exact c)]
    obtain ⟨e, hi⟩ := inB_e c
    by_cases d : inB w 21
    · obtain ⟨d1, d2⟩ := (inB_2 (c := 20) (by omega)).mpr d
      obtain ⟨e', hn⟩ := inB_e d
      rw [if_neg d1, if_pos (show w ≤ (20 : Int32) from d2), if_pos ⟨c, d⟩, wq_bind]
      refine wq_mono (c_prepN hW htb hz (hne (by omega)) h) ?_
      rintro s ⟨a1, a2, a3, a4⟩
      have htb2 := tbF_e htb a4.1
      have h12 := htb2.2.2.2.2.1
      have h55 := htb2.2.2.2.2.2.2.2.2.2.2.2
      have key : ∀ i n, i < W.g → n < 21 → f_X1_countKnowing (nI i) (nI n) s = some (nI (cnP (rl W.N W.al) (fun r => decide (fk W r i ≤ n)))) := by
        intro i n hi hn
        refine wq_eq ?_
        unfold f_X1_countKnowing
        refine wq_for (R := fun k x => x = (nI (cnP ((rl W.N W.al).take k) (fun r => decide (fk W r i ≤ n))), nI k)) 0 (rl W.N W.al).length (Nat.zero_le _) ?_ ?_ rfl
        · rintro k x - hk rfl
          (try dsimp only)
          unfold f_X1_countKnowing_5 f_X1_countKnowing_44
          have hxm := getD_mem hk
          obtain ⟨x1, x2⟩ := rl_mem.mp hxm
          have hf := fk_le W ((rl W.N W.al).getD k 0) i
          rw [h12, if_neg (nI_ge hk (by omega)), cg54 (by omega), h55 k hk, c_first hW a3 x2 hi, take_s hk, cnP_s, nI_1 k, wq_some, fhK_l]
          by_cases q : fk W ((rl W.N W.al).getD k 0) i ≤ n
          · rw [if_neg (by rw [nI_ltP (by omega) (by omega)]; omega), if_pos (decide_eq_true q), nI_1]
          · rw [if_pos (by rw [nI_ltP (by omega) (by omega)]; omega), if_neg (by rw [decide_eq_true_iff]; exact q), ph_0, nI_add]
            rfl
        · rintro x rfl
          (try dsimp only)
          unfold f_X1_countKnowing_5
          rw [h12, if_pos (nI_le (Nat.le_refl _) (by omega)), List.take_length, wq_some, fhK_r]
      have e9 : f_X1_countKnowing v w s = f_X1_countKnowing (nI v.toInt.toNat) (nI w.toInt.toNat) s := by rw [← e, ← e']
      rw [e9, key _ _ hi hn, wq_bind, wq_some, wq_some]
      exact ⟨rfl, a1, a4⟩
    · rw [if_neg (c := inB v W.g ∧ inB w 21) (fun z => d z.2)]
      by_cases d1 : w < 0
      · rw [if_pos d1, wq_some]
        exact ⟨rfl, h, anP_rf⟩
      · rw [if_neg d1, if_neg (fun (d2 : w ≤ (20 : Int32)) => d ((inB_2 (c := 20) (by omega)).mp ⟨d1, d2⟩)), wq_some]
        exact ⟨rfl, h, anP_rf⟩
  · rw [if_neg (by rw [c_isG v (by omega) htb.2.1]; exact c), if_neg (c := inB v W.g ∧ inB w 21) (fun z => c z.1), wq_some]
    exact ⟨rfl, h, anP_rf⟩
theorem m_odds (hW : wOK W) {σ : fhM} (h6 : σ.1 29 6 = nI W.g) (h52 : σ.1 0 52 = nI W.N) (hal : alM W σ) (h : knT W σ) (v w : Int32) : f_X12_odds v w σ = some (oddA W v w) := by
  have hg5 := hW.1
  have hN10 := hW.2.1
  unfold f_X12_odds oddA
  by_cases c : inB v W.g
  · rw [if_pos (by rw [m_isG v (by omega) h6]; exact c)]
    by_cases d : inB w 21
    · obtain ⟨e, hi⟩ := inB_e c
      obtain ⟨e', hn⟩ := inB_e d
      rw [if_pos (show f_X12_isIn w.toInt64 (0 : Int64) (20 : Int64) σ = true by rw [show (0 : Int64) = lI 0 from rfl, show (20 : Int64) = lI 20 from rfl, m_inI w (by decide) (by decide) (by decide) (by decide)]; have := d.1; have := d.2; omega), if_pos ⟨c, d⟩]
      generalize v.toInt.toNat = i at e hi
      generalize w.toInt.toNat = n at e' hn
      subst e
      subst e'
      refine wq_eq ?_
      refine wq_for (R := fun x y => y = (nI (cnP (rl x W.al) (fun r => decide (fk W r i ≤ n))), nI x)) 0 W.N (Nat.zero_le _) ?_ ?_ rfl
      · rintro x y - hx rfl
        (try dsimp only)
        unfold f_X12_odds_28 f_X12_odds_61
        rw [h52, if_neg (nI_ge hx (by omega)), if_pos (ph_in1 (by omega) (by omega)), ph_ix (by omega), hal x hx]
        by_cases q : W.al x = true
        · rw [if_neg (by rw [al01]; exact not_not_intro q), m_knewAt hW h (by omega) q hi, wq_bind, wq_some, rl_s, if_pos q, cnP_s, nI_1 x, wq_some, fhK_l]
          by_cases z : decide (fk W x i ≤ n) = true
          · rw [if_pos z, if_pos z, nI_1]
          · rw [if_neg z, if_neg z]
        · rw [if_pos (by rw [al01]; exact q), nI_1, wq_some, fhK_l, rl_s, if_neg q]
      · rintro y rfl
        (try dsimp only)
        unfold f_X12_odds_28
        rw [h52, if_pos (nI_le (Nat.le_refl _) (by omega)), wq_some, fhK_r]
    · rw [if_neg (show ¬ f_X12_isIn w.toInt64 (0 : Int64) (20 : Int64) σ = true by rw [show (0 : Int64) = lI 0 from rfl, show (20 : Int64) = lI 20 from rfl, m_inI w (by decide) (by decide) (by decide) (by decide)]; exact fun z => d ⟨z.1, by have := z.2; omega⟩), if_neg (c := inB v W.g ∧ inB w 21) (fun z => d z.2)]
  · rw [if_neg (by rw [m_isG v (by omega) h6]; exact c), if_neg (c := inB v W.g ∧ inB w 21) (fun z => c z.1)]
end
