/-! THE CLASS: on, the whole -/
section
variable {W : gW} {T : tT} {G : gG} {S : List gG}
theorem onL_lt {r : Nat} (h : r < W.N) : onL W T r = bitT W T r := by
  unfold onL
  rw [decide_eq_true h, Bool.true_and]
theorem c_on (hW : wOK W) (hNm : W.N = W.m ^ W.g) (hm : 2 ≤ W.m) (hT : tOK T) {σ : fhM} (hg : cGm W G S σ) (h1 : σ.1 0 1 = nI T.2) (hx : cX T σ) (h8 : ¬ σ.1 0 8 = 0) : wq (f_X11_on σ) (fun r => (onO W T ∧ r.1 = true ∧ cGm W (onG W T) [] r.2 ∧ r.2.1 57 3 = 0 ∧ fpl aDc (fhI σ 0 1 (0 : Int32)) r.2) ∨ (¬ onO W T ∧ r = (false, fhI (fhI σ 0 1 (0 : Int32)) 101 5 (σ.1 101 5 + 1)))) := by
  have hN10 := hW.2.1
  have hg5 := hW.1
  have hT2 := hT.2
  obtain ⟨hb1, hb2, hb3⟩ := nbt_le hW
  have hpz : psz W = 2 + W.g + nbt W + 1 := rfl
  obtain ⟨htb, hz, -, -, -⟩ := hg
  have htb1 : tbF W W.N (fhI σ 0 1 (0 : Int32)) := by
    obtain ⟨a1, a2, a3, a4, a5, a6, a7, a8, a9, a10, a11, a12⟩ := htb
    have e : ∀ t j, t ≠ 0 → (fhI σ 0 1 (0 : Int32)).1 t j = σ.1 t j := fun t j h => fhI_o h
    exact ⟨by rw [e _ _ (by decide)]; exact a1, by rw [e _ _ (by decide)]; exact a2, by rw [e _ _ (by decide)]; exact a3, by rw [e _ _ (by decide)]; exact a4, by rw [e _ _ (by decide)]; exact a5, fun k hk => by rw [e _ _ (by decide)]; exact a6 k hk, fun k hk => by rw [e _ _ (by decide)]; exact a7 k hk, fun r i x y => by rw [e _ _ (by decide)]; exact a8 r i x y, fun r i x y => by rw [e _ _ (by decide)]; exact a9 r i x y, fun r x => by rw [e _ _ (by decide)]; exact a10 r x, fun r x y => by rw [e _ _ (by decide)]; exact a11 r x y, fun k x => by rw [e _ _ (by decide)]; exact a12 k x⟩
  have hz1 : psF (fhI σ 0 1 (0 : Int32)) := fun j hj => by rw [fhI_o (by decide)]; exact hz j hj
  have hx1 : cX T (fhI σ 0 1 (0 : Int32)) := fun i hi => by rw [fhI_o (by decide)]; exact hx i hi
  have h81 : ¬ (fhI σ 0 1 (0 : Int32)).1 0 8 = 0 := by rw [fhI_s (by decide)]; exact h8
  have no : ∀ {Q : Bool × fhM → Prop}, Q (false, fhI (fhI σ 0 1 (0 : Int32)) 101 5 (σ.1 101 5 + 1)) → wq (f_X11_on_35 (fhI σ 0 1 (0 : Int32))) Q := fun {Q} h => by
    unfold f_X11_on_35 fhlet
    (try dsimp only)
    rw [show (5 : Int32) = nI 5 from rfl, c_refuse (by decide), wq_some, fhI_o (show 101 ≠ 0 by decide)]
    exact h
  unfold f_X11_on f_X11_takeTape fhlet
  (try dsimp only)
  rw [if_neg h81, h1, wq_bind]
  refine wq_mono (c_rowOf hW hNm hm hT (tbF_rw htb1) htb1.1 htb1.2.2.2.1 htb1.2.2.2.2.2.1 hx1) ?_
  rintro v (⟨hp, rfl⟩ | ⟨hp, rfl⟩)
  · have hlt := rowT_lt (W := W) (T := T) (by omega) hp.2.2.2
    have hwN : rowT W T W.g < W.N := by rw [hNm]; exact hlt
    unfold f_X11_on_21
    rw [if_neg (ph_m1n (by omega)), wq_bind]
    refine wq_mono (c_leftFit hW hT htb1 hx1 hp.1 hwN) ?_
    rintro v (⟨hq, rfl⟩ | ⟨hq, rfl⟩)
    · rw [if_pos rfl]
      have hll : ∀ k, (rl k (onL W T)).length ≤ k := fun k => rl_len k _
      refine wq_for (R := fun k x => ∃ f, x = (nI k, fhI (fhU (fhI σ 0 1 (0 : Int32)) 73 f) 56 8 (nI (rl k (onL W T)).length)) ∧ lsT f (rl k (onL W T))) 0 W.N (Nat.zero_le _) ?_ ?_ ⟨(fhI σ 0 1 (0 : Int32)).1 73, by rw [fhU_id (fun _ => rfl)]; rfl, fun k hk => absurd hk (Nat.not_lt_zero _)⟩
      · rintro k x - hk ⟨f, rfl, hf⟩
        (try dsimp only)
        unfold f_X11_on_53 f_X11_on_103
        have hlk := hll k
        have hx2 : cX T (fhI (fhU (fhI σ 0 1 (0 : Int32)) 73 f) 56 8 (nI (rl k (onL W T)).length)) := fun i hi => by rw [fhI_o (by decide), fhU_o (by decide)]; exact hx1 i hi
        have h92 : (fhI (fhU (fhI σ 0 1 (0 : Int32)) 73 f) 56 8 (nI (rl k (onL W T)).length)).1 39 9 = nI W.g := by rw [fhI_o (by decide), fhU_o (by decide)]; exact htb1.2.1
        have h112 : (fhI (fhU (fhI σ 0 1 (0 : Int32)) 73 f) 56 8 (nI (rl k (onL W T)).length)).1 39 11 = nI W.N := by rw [fhI_o (by decide), fhU_o (by decide)]; exact htb1.2.2.2.1
        rw [h112, if_neg (nI_ge hk (by omega)), c_tapeBit hW hT h92 hx2 hp.1 (by omega), rl_s, onL_lt hk]
        by_cases c : bitT W T k = true
        · rw [if_pos c, if_pos c, fhI_e, cp72 (by omega), nI_1, nI_1, wq_some, fhK_l]
          refine ⟨fun j => if j = (rl k (onL W T)).length then nI k else f j, ?_, lsT_a hf k⟩
          rw [fhI_IO (t := 56) (a := 73) (Or.inl (by decide)), fhI_I, fhU_I, List.length_append]
          rfl
        · rw [if_neg c, if_neg c, nI_1, wq_some, fhK_l]
          exact ⟨f, rfl, hf⟩
      · rintro x ⟨f, rfl, hf⟩
        (try dsimp only)
        unfold f_X11_on_53
        have h112 : (fhI (fhU (fhI σ 0 1 (0 : Int32)) 73 f) 56 8 (nI (rl W.N (onL W T)).length)).1 39 11 = nI W.N := by rw [fhI_o (by decide), fhU_o (by decide)]; exact htb1.2.2.2.1
        have hx2 : cX T (fhI (fhU (fhI σ 0 1 (0 : Int32)) 73 f) 56 8 (nI (rl W.N (onL W T)).length)) := fun i hi => by rw [fhI_o (by decide), fhU_o (by decide)]; exact hx1 i hi
        have b0 := hT2 0
        have b1 := hT2 1
        have hp1 := hp.1
        have e2 : ((fcG (fhI (fhU (fhI σ 0 1 (0 : Int32)) 73 f) 56 8 (nI (rl W.N (onL W T)).length)) 1 (0 : Int32)) * (256 : Int32)) + (fcG (fhI (fhU (fhI σ 0 1 (0 : Int32)) 73 f) 56 8 (nI (rl W.N (onL W T)).length)) 1 (1 : Int32)) = nI (256 * T.1 0 + T.1 1) := by
          rw [show ∀ s, cX T s → fcG s 1 (0 : Int32) = nI (T.1 0) from fun s hs => c_get hT hs (i := 0) (by omega), show ∀ s, cX T s → fcG s 1 (1 : Int32) = nI (T.1 1) from fun s hs => c_get hT hs (i := 1) (by omega), show (256 : Int32) = nI 256 from rfl, pk_mul, nI_add, Nat.mul_comm]
          · exact hx2
          · exact hx2
        rw [h112, if_pos (nI_le (Nat.le_refl _) (by omega)), e2, wq_bind]
        have hf1 : fpl aDc (fhI σ 0 1 (0 : Int32)) (fhI (fhI (fhI (fhU (fhI σ 0 1 (0 : Int32)) 73 f) 56 8 (nI (rl W.N (onL W T)).length)) 56 10 (nI (256 * T.1 0 + T.1 1))) 56 9 (nI (rowT W T W.g))) := fpl_I (fpl_I (fpl_I (fpl_U fpl_rf (by unfold aDc gD4; omega)) (by unfold aDc gD4; omega)) (by unfold aDc gD4; omega)) (by unfold aDc gD4; omega)
        refine wq_mono (c_settle hW (l := rl W.N (onL W T)) (tbF_rw (tbF_a htb1 hf1)) (psF_a hz1 hf1) rl_lt (by have := hll W.N; omega) ?_ ?_) ?_
        · rw [fhI_s (by decide), fhI_s (by decide), fhI_e]
        · intro k hk
          rw [fhI_o (by decide), fhI_o (by decide), fhI_o (by decide), fhU_e]
          exact hf k hk
        · rintro s ⟨t, rfl, ht⟩
          unfold fhlet f_X6_wipe
          (try dsimp only)
          rw [wq_some, fhK_r]
          have hf2 := fpl_I (k := 4) (x := (0 : Int32)) (fpl_I (k := 3) (x := (0 : Int32)) (fpl_I (k := 1) (x := (0 : Int32)) (fpl_I (k := 3) (x := (0 : Int32)) (fpl_U (t := 75) (g := t) hf1 (by unfold aDc gD4; omega)) (t := 57) (by unfold aDc gD4; omega)) (t := 93) (by unfold aDc gD4; omega)) (t := 93) (by unfold aDc gD4; omega)) (t := 93) (by unfold aDc gD4; omega)
          refine Or.inl ⟨⟨hp, hq.1, hq.2⟩, rfl, ⟨tbF_a htb1 hf2, psF_a hz1 hf2, ⟨?_, ?_, ?_, fun k hk => ?_, fun r hr => ?_⟩, ⟨?_, fun k e hk => by rw [show (onG W T).H = [] from rfl, List.getElem?_nil] at hk; cases hk⟩, 0, ⟨?_, by decide, ?_, Nat.zero_le _, fun k G hk => by rw [List.getElem?_nil] at hk; cases hk⟩⟩, ?_, hf2⟩
          · rw [fhI_o (by decide), fhI_o (by decide), fhI_o (by decide), fhI_o (by decide), fhU_o (by decide), fhI_s (by decide), fhI_s (by decide), fhI_e]
            rfl
          · rw [fhI_o (by decide), fhI_o (by decide), fhI_o (by decide), fhI_o (by decide), fhU_o (by decide), fhI_e]
            rfl
          · rw [fhI_o (by decide), fhI_o (by decide), fhI_o (by decide), fhI_o (by decide), fhU_o (by decide), fhI_s (by decide), fhI_e]
            rfl
          · rw [fhI_o (by decide), fhI_o (by decide), fhI_o (by decide), fhI_o (by decide), fhU_o (by decide), fhI_o (by decide), fhI_o (by decide), fhI_o (by decide), fhU_e]
            exact hf k hk
          · rw [fhI_o (by decide), fhI_o (by decide), fhI_o (by decide), fhI_o (by decide), fhU_e]
            exact ht r hr
          · rw [fhI_s (by decide), fhI_s (by decide), fhI_e]
            rfl
          · rw [fhI_s (by decide), fhI_e]
            rfl
          · rw [fhI_e]
            rfl
          · rw [fhI_o (by decide), fhI_o (by decide), fhI_o (by decide), fhI_e]
    · rw [if_neg (show ¬ false = true by decide)]
      exact no (Or.inr ⟨fun z => hq ⟨z.2.1, z.2.2⟩, rfl⟩)
  · unfold f_X11_on_21
    rw [if_pos rfl]
    exact no (Or.inr ⟨fun z => hp z.1, rfl⟩)
end
