/-! ANEW: fits -/
def anX (σ s : fhM) : Prop := fpl (fun t => anD t ∨ t = 92) σ s ∧ ∀ j, j ≠ 5 → j ≠ 6 → j ≠ 9 → j ≠ 12 → s.1 76 j = σ.1 76 j
theorem anX_P {σ s : fhM} (h : anP σ s) : anX σ s := ⟨⟨fun t j z => h.1.1 t j (fun w => z (Or.inl w)), h.1.2⟩, fun j a b c _ => h.2 j a b c⟩
theorem anX_rf {σ : fhM} : anX σ σ := anX_P anP_rf
theorem tbF_q {W : gW} {σ s : fhM} (h : tbF W W.N σ) (e : ∀ t j, t < 56 → s.1 t j = σ.1 t j) : tbF W W.N s := by
  obtain ⟨a1, a2, a3, a4, a5, a6, a7, a8, a9, a10, a11, a12⟩ := h
  exact ⟨by rw [e 39 _ (by decide)]; exact a1, by rw [e 39 _ (by decide)]; exact a2, by rw [e 39 _ (by decide)]; exact a3, by rw [e 39 _ (by decide)]; exact a4, by rw [e 39 _ (by decide)]; exact a5, fun k hk => by rw [e 41 _ (by decide)]; exact a6 k hk, fun k hk => by rw [e 51 _ (by decide)]; exact a7 k hk, fun r i x y => by rw [e 43 _ (by decide)]; exact a8 r i x y, fun r i x y => by rw [e 45 _ (by decide)]; exact a9 r i x y, fun r x => by rw [e 47 _ (by decide)]; exact a10 r x, fun r x y => by rw [e 53 _ (by decide)]; exact a11 r x y, fun k x => by rw [e 55 _ (by decide)]; exact a12 k x⟩
theorem anX_t {σ s : fhM} (h : anX σ s) {t j : Nat} (ht : t < 76) : s.1 t j = σ.1 t j := (h.1.1 t j (fun z => by rcases z with z | z <;> (try unfold anD at z) <;> omega)).1
section
variable {W : gW} {H : tT}
theorem heF_P {σ s : fhM} (h : heF H σ) (hf : anP σ s) : heF H s := ⟨by rw [hf.2 13 (by decide) (by decide) (by decide)]; exact h.1, fun k hk => by rw [(hf.1.1 90 k (fun z => by unfold anD at z; omega)).1]; exact h.2 k hk⟩
theorem flt_t {l : List Nat} {k : Nat} (hk : k < l.length) (P : Nat → Bool) : (l.take (k + 1)).filter P = if P (l.getD k 0) = true then (l.take k).filter P ++ [l.getD k 0] else (l.take k).filter P := by
  rw [take_s hk, List.filter_append]
  split
  · rename_i c
    rw [List.filter_cons_of_pos c]
    rfl
  · rename_i c
    rw [List.filter_cons_of_neg c, List.filter_nil, List.append_nil]
theorem c_findFit (hW : wOK W) {σ : fhM} (htb : tbF W W.N σ) (hz : psF σ) (hne : rl W.N W.al ≠ []) (h : anC W σ) (hF : heF H σ) (hV : heV W H) : wq (f_X1_findFitting σ) (fun s => anC W s ∧ fkT W s ∧ s.1 76 12 = nI (fitL W H).length ∧ lsT (s.1 92) (fitL W H) ∧ anX σ s) := by
  have hN10 := hW.2.1
  have hll := rl_len W.N W.al
  unfold f_X1_findFitting
  rw [wq_bind]
  refine wq_mono (c_prepN hW htb hz hne h) ?_
  rintro s ⟨a1, a2, a3, a4⟩
  have htb2 := tbF_e htb a4.1
  have h12 := htb2.2.2.2.2.1
  have h55 := htb2.2.2.2.2.2.2.2.2.2.2.2
  have hF2 := heF_P hF a4
  have fle : ∀ k, (((rl W.N W.al).take k).filter (fitB W H)).length ≤ k := fun k => Nat.le_trans (List.length_filter_le _ _) (List.length_take_le _ _)
  refine wq_for (R := fun k x => ∃ f, x = (nI k, fhI (fhU s 92 f) 76 12 (nI (((rl W.N W.al).take k).filter (fitB W H)).length)) ∧ lsT f (((rl W.N W.al).take k).filter (fitB W H))) 0 (rl W.N W.al).length (Nat.zero_le _) ?_ ?_ ⟨s.1 92, by rw [fhU_id (fun _ => rfl)]; rfl, fun k hk => absurd hk (Nat.not_lt_zero _)⟩
  · rintro k x - hk ⟨f, rfl, hf⟩
    (try dsimp only)
    unfold f_X1_findFitting_11 f_X1_findFitting_64
    have hxm := getD_mem hk
    obtain ⟨x1, x2⟩ := rl_mem.mp hxm
    have hfk := fle k
    have q1 : fkT W (fhI (fhU s 92 f) 76 12 (nI (((rl W.N W.al).take k).filter (fitB W H)).length)) := fun r i hr hi => by rw [fhI_o (by decide), fhU_o (by decide)]; exact a3 r i hr hi
    have q2 : heF H (fhI (fhU s 92 f) 76 12 (nI (((rl W.N W.al).take k).filter (fitB W H)).length)) := ⟨by rw [fhI_s (by decide), fhU_o (by decide)]; exact hF2.1, fun k hk => by rw [fhI_o (by decide), fhU_o (by decide)]; exact hF2.2 k hk⟩
    rw [fhI_o (show 39 ≠ 76 by decide), fhU_o (show 39 ≠ 92 by decide), h12, if_neg (nI_ge hk (by omega)), cg54 (by omega), fhI_o (show 55 ≠ 76 by decide), fhU_o (show 55 ≠ 92 by decide), h55 k hk, c_isFit hW q1 q2 hV x2, wq_bind, wq_some]
    rw [flt_t hk]
    by_cases c : fitB W H ((rl W.N W.al).getD k 0) = true
    · rw [if_pos c, if_pos c, fhI_e, cp91 (by omega), nI_1, nI_1, wq_some, fhK_l]
      refine ⟨fun j => if j = (((rl W.N W.al).take k).filter (fitB W H)).length then nI ((rl W.N W.al).getD k 0) else f j, ?_, lsT_a hf _⟩
      rw [fhI_IO (t := 76) (a := 92) (Or.inl (by decide)), fhI_I, fhU_I, List.length_append]
      rfl
    · rw [if_neg c, if_neg c, nI_1, wq_some, fhK_l]
      exact ⟨f, rfl, hf⟩
  · rintro x ⟨f, rfl, hf⟩
    (try dsimp only)
    unfold f_X1_findFitting_11
    rw [fhI_o (show 39 ≠ 76 by decide), fhU_o (show 39 ≠ 92 by decide), h12, if_pos (nI_le (Nat.le_refl _) (by omega)), wq_some, fhK_r]
    rw [List.take_length] at hf ⊢
    have q1 : fkT W (fhI (fhU s 92 f) 76 12 (nI (fitL W H).length)) := fun r i hr hi => by rw [fhI_o (by decide), fhU_o (by decide)]; exact a3 r i hr hi
    refine ⟨⟨a1.1, Or.inr ⟨?_, q1⟩⟩, q1, fhI_e, fun k hk => ?_, ⟨fun t j ht => ⟨?_, ?_⟩, ?_⟩, fun j b1 b2 b3 b4 => ?_⟩
    · rw [fhI_s (by decide), fhU_o (by decide)]
      exact a2
    · rw [fhI_o (by decide), fhU_e]
      exact hf k hk
    · have t1 : t ≠ 76 := fun z => ht (Or.inl (Or.inl z))
      have t2 : t ≠ 92 := fun z => ht (Or.inr z)
      rw [fhI_o t1, fhU_o t2]
      exact (a4.1.1 t j (fun z => ht (Or.inl z))).1
    · exact (a4.1.1 t j (fun z => ht (Or.inl z))).2
    · exact a4.1.2
    · rw [fhI_s b4, fhU_o (by decide)]
      exact a4.2 j b1 b2 b3
def ftsA (W : gW) (H : tT) (v : Int32) : Int32 := if v = -1 then nI (fitL W H).length else if inB v (fitL W H).length then nI ((fitL W H).getD v.toInt.toNat 0) else -1
theorem m1_le (v : Int32) : ((-1 : Int32) ≤ v) = (-1 ≤ v.toInt) := propext (by rw [Int32.le_iff_toInt_le]; rfl)
theorem m1_eq {v : Int32} : v = -1 ↔ v.toInt = -1 := ⟨fun z => by rw [z]; rfl, fun z => Int32.toInt_inj.mp z⟩
theorem c_fits (hW : wOK W) {σ : fhM} (htb : tbF W W.N σ) (hz : psF σ) (hne : rl W.N W.al ≠ []) (h : anC W σ) (hF : heF H σ) (hV : heV W H) (h8 : ¬ σ.1 0 8 = 0) (v : Int32) : wq (f_X11_fits v σ) (fun r => r.1 = ftsA W H v ∧ anC W r.2 ∧ anX σ r.2) := by
  have hN10 := hW.2.1
  have hll := rl_len W.N W.al
  have hfl : (fitL W H).length ≤ 1024 := Nat.le_trans (List.length_filter_le _ _) (by omega)
  unfold f_X11_fits ftsA
  rw [if_neg h8]
  by_cases c : (-1 : Int32) ≤ v
  · rw [if_pos c, wq_bind]
    rw [m1_le] at c
    refine wq_mono (c_findFit hW htb hz hne h hF hV) ?_
    rintro s ⟨a1, a2, a3, a4, a5⟩
    rw [a3]
    by_cases d : v = -1
    · rw [if_pos d, if_pos d, wq_some]
      exact ⟨rfl, a1, a5⟩
    · have d2 : v.toInt ≠ -1 := fun z => d (m1_eq.mpr z)
      rw [if_neg d, if_neg d]
      by_cases e : inB v (fitL W H).length
      · obtain ⟨e1, e2⟩ := inB_e e
        rw [if_neg (by rw [le_nP v (by omega)]; have := e.2; omega), if_pos e, wq_some]
        refine ⟨?_, a1, a5⟩
        (try dsimp only)
        have := cg91 (σ := s) (k := v.toInt.toNat) (by omega)
        rw [← e1] at this
        rw [this]
        exact a4 _ e2
      · rw [if_pos (by rw [le_nP v (by omega)]; have : ¬ (0 ≤ v.toInt ∧ v.toInt < ((fitL W H).length : Int)) := e; omega), if_neg e, wq_some]
        exact ⟨rfl, a1, a5⟩
  · rw [if_neg c, wq_some]
    rw [m1_le] at c
    rw [if_neg (fun z => c (by have := m1_eq.mp z; omega)), if_neg (fun z => c (by have := z.1; omega))]
    exact ⟨rfl, h, anX_rf⟩
theorem fl_row {x : Nat} (W : gW) (H : tT) : (rl (x + 1) W.al).filter (fitB W H) = if (W.al x && fitB W H x) = true then (rl x W.al).filter (fitB W H) ++ [x] else (rl x W.al).filter (fitB W H) := by
  rw [rl_s]
  by_cases a : W.al x = true
  · rw [if_pos a, List.filter_append, a, Bool.true_and]
    by_cases b : fitB W H x = true
    · rw [if_pos b, List.filter_cons_of_pos b]
      rfl
    · rw [if_neg b, List.filter_cons_of_neg b, List.filter_nil, List.append_nil]
  · rw [if_neg a, if_neg (by rw [Bool.and_eq_true]; exact fun z => a z.1)]
theorem m_fits (hW : wOK W) {σ : fhM} (h52 : σ.1 0 52 = nI W.N) (hal : alM W σ) (h : knT W σ) (hM : heM H σ) (hV : heV W H) (h47 : ¬ σ.1 0 47 = 0) (v : Int32) : f_X12_fits v σ = some (ftsA W H v) := by
  have hN10 := hW.2.1
  have hll : ∀ x, ((rl x W.al).filter (fitB W H)).length ≤ x := fun x => Nat.le_trans (List.length_filter_le _ _) (rl_len x W.al)
  unfold f_X12_fits ftsA
  rw [if_neg h47]
  by_cases c : (-1 : Int32) ≤ v
  · rw [if_pos c]
    rw [m1_le] at c
    refine wq_eq ?_
    refine wq_for (R := fun x y => y = (nI ((rl x W.al).filter (fitB W H)).length, nI x) ∧ ¬ inB v ((rl x W.al).filter (fitB W H)).length) 0 W.N (Nat.zero_le _) ?_ ?_ ⟨rfl, fun z => by have h1 := z.1; have h2 := z.2; have h3 : ((rl 0 W.al).filter (fitB W H)).length = 0 := rfl; omega⟩
    · rintro x y - hx ⟨rfl, hn⟩
      (try dsimp only)
      unfold f_X12_fits_18 f_X12_fits_47
      have hlx := hll x
      rw [h52, if_neg (nI_ge hx (by omega)), m_doesFit hW hal h hM hV hx, wq_bind, wq_some]
      have hfr := fl_row (x := x) W H
      by_cases q : (W.al x && fitB W H x) = true
      · rw [if_pos q] at hfr
        rw [if_pos q]
        by_cases d : nI ((rl x W.al).filter (fitB W H)).length = v
        · rw [if_pos d, wq_some, fhK_r]
          have dv : v.toInt = ((rl x W.al).filter (fitB W H)).length := by rw [← d, nI_toInt (by omega)]
          obtain ⟨t, ht⟩ := rl_pre (n := W.N) (k := x + 1) (L := W.al) hx
          have e : fitL W H = ((rl x W.al).filter (fitB W H) ++ [x]) ++ t.filter (fitB W H) := by
            unfold fitL
            rw [ht, List.filter_append, hfr]
          rw [if_neg (fun z => by have := m1_eq.mp z; omega), if_pos ⟨by omega, by rw [e, List.length_append, List.length_append]; have h1 : ([x] : List Nat).length = 1 := rfl; omega⟩, dv, Int.toNat_natCast, e, getD_L (by rw [List.length_append]; have h1 : ([x] : List Nat).length = 1 := rfl; omega), getD_app2]
        · rw [if_neg d, nI_1, nI_1, wq_some, fhK_l, hfr, List.length_append]
          refine ⟨rfl, fun z => ?_⟩
          have h1 : ([x] : List Nat).length = 1 := rfl
          have z1 := z.1
          have z2 := z.2
          rcases Int.lt_or_le v.toInt ((rl x W.al).filter (fitB W H)).length with w | w
          · exact hn ⟨z1, w⟩
          · refine d ((Int32.toInt_inj).mp ?_)
            rw [nI_toInt (by omega)]
            omega
      · rw [if_neg q] at hfr
        rw [if_neg q, nI_1, wq_some, fhK_l, hfr]
        exact ⟨rfl, hn⟩
    · rintro y ⟨rfl, hn⟩
      (try dsimp only)
      unfold f_X12_fits_18
      rw [h52, if_pos (nI_le (Nat.le_refl _) (by omega))]
      by_cases d : v = -1
      · rw [if_pos d, if_pos d, wq_some, fhK_r]
        rfl
      · rw [if_neg d, if_neg d, if_neg (show ¬ inB v (fitL W H).length from hn), wq_some, fhK_r]
  · rw [if_neg c]
    rw [m1_le] at c
    rw [if_neg (fun z => c (by have := m1_eq.mp z; omega)), if_neg (fun z => c (by have := z.1; omega))]
end
