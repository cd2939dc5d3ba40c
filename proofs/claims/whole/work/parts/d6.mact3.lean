/-! ACTIONS, the reference: what is told; a fresh start -/
def mx (P L : Nat → Bool) (k r : Nat) : Bool := if r < k then P r else L r
theorem mx_lt {P L : Nat → Bool} {k r : Nat} (h : r < k) : mx P L k r = P r := if_pos h
theorem mx_ge {P L : Nat → Bool} {k r : Nat} (h : ¬ r < k) : mx P L k r = L r := if_neg h
section
variable {W : gW} {G : gG} {S : List gG} {σ : fhM}
theorem m_tell (hW : wOK W) (hg : mGm W G S σ) (hw : G.w ∈ rl W.N G.L) (hi : lin W G.L) {i : Nat} (hif : i < W.F) : wq (f_X12_tell (nI i) σ) (fun r => r.1 = bI ((W.tr G.w).testBit i) ∧ mGm W (gTel W G i) (psh G S) r.2 ∧ fr aDm σ r.2) := by
  have hN10 := hW.2.1
  have hF := hW.2.2.1
  have h256 := pF hW
  have hwN := rl_lt _ hw
  unfold f_X12_tell
  rw [if_pos (by rw [m_isFt _ (by omega) hg.1.2.1, inB_n (by omega)]; exact hif), wq_bind]
  refine wq_mono (m_saved hg) (fun s z => ?_)
  obtain ⟨⟨h1, h2, ⟨x, hx⟩, h62⟩, z2⟩ := z
  obtain ⟨g1, g2⟩ := tbM_g (W := W) h2
  have h38 := h1.2.2.2.1
  have h52 := h1.1.2.2.1
  rw [g1.2.1, m_holds hW h38 hwN hif, wq_bind, wq_some]
  refine wq_for (R := fun k y => ∃ n, y = (nI k, fhU s 44 n) ∧ (∀ r, r < 1024 → n (2 + r) = nI (if mx (kpt (alk W.tr (2 ^ i) G.w) G.L) G.L k r = true then 1 else 0)) ∧ ∀ j, (j < 2 ∨ 1026 ≤ j) → n j = s.1 44 j) 0 W.N (Nat.zero_le _) ?_ ?_ ⟨s.1 44, by rw [fhU_id (fun _ => rfl)]; rfl, fun r hr => by rw [mx_ge (Nat.not_lt_zero r)]; exact h2.2.2.1 r hr, fun _ _ => rfl⟩
  · rintro k y - hk ⟨n, rfl, hn, hf⟩
    (try dsimp only)
    unfold f_X12_tell_32 f_X12_tell_59
    have h38' : ∀ r, r < W.N → (fhU s 44 n).1 38 r = nI (W.tr r) := fun r hr => by rw [fhU_o (by decide)]; exact h38 r hr
    have bb := bit_and8 (W.tr k) (by have := hW.2.2.2.2.2.2.2.1 k; omega) (W.tr G.w) (by have := hW.2.2.2.2.2.2.2.1 G.w; omega) i (by omega)
    rw [fhU_o (show 0 ≠ 44 by decide), h52, if_neg (nI_ge hk (by omega)), m_holds hW h38' hk hif, wq_bind, wq_some, fhb_bI, fhb_bI, nI_1]
    by_cases q : (W.tr k).testBit i = (W.tr G.w).testBit i
    · rw [if_pos (by rw [q]), wq_some, fhK_l]
      refine ⟨n, rfl, fun r hr => ?_, hf⟩
      rw [hn r hr]
      by_cases qr : r = k
      · rw [mx_ge (show ¬ r < k by omega), mx_lt (show r < k + 1 by omega), qr]
        have : kpt (alk W.tr (2 ^ i) G.w) G.L k = G.L k := by
          unfold kpt
          rw [show alk W.tr (2 ^ i) G.w k = true from decide_eq_true (bb.mp q), Bool.true_and]
        rw [this]
      · by_cases qk : r < k
        · rw [mx_lt qk, mx_lt (show r < k + 1 by omega)]
        · rw [mx_ge qk, mx_ge (show ¬ r < k + 1 by omega)]
    · rw [if_neg (by rw [bI_eq]; exact q), show (2 : Int32) = nI 2 from rfl, nI_add, if_pos (ph_in1 (by omega) (by omega)), ph_ix (by omega), fhU_I, wq_some, fhK_l]
      refine ⟨_, rfl, fun r hr => ?_, fun j hj => ?_⟩
      · (try dsimp only)
        by_cases qr : r = k
        · have : kpt (alk W.tr (2 ^ i) G.w) G.L k = false := by
            unfold kpt
            rw [show alk W.tr (2 ^ i) G.w k = false from decide_eq_false (fun z => q (bb.mpr z)), Bool.false_and]
          rw [if_pos (by omega), mx_lt (show r < k + 1 by omega), qr, this]
          rfl
        · rw [if_neg (by omega), hn r hr]
          by_cases qk : r < k
          · rw [mx_lt qk, mx_lt (show r < k + 1 by omega)]
          · rw [mx_ge qk, mx_ge (show ¬ r < k + 1 by omega)]
      · (try dsimp only)
        rw [if_neg (by omega)]
        exact hf j hj
  · rintro y ⟨n, rfl, hn, hf⟩
    (try dsimp only)
    unfold f_X12_tell_32
    rw [fhU_o (show 0 ≠ 44 by decide), h52, if_pos (nI_le (Nat.le_refl _) (by omega)), wq_map]
    unfold f_X12_tell_77
    have e44 : ∀ j, (fhU s 44 n).1 44 j = n j := fun j => fhU_e
    have hfr : fr aDm s (fhU s 44 n) := fr_U fr_rf (fun j => by unfold aDm; omega)
    have hv : (if fhb ((W.tr G.w).testBit i) = 0 then (0 : Int32) else 1) = nI (if (W.tr G.w).testBit i = true then 1 else 0) := by
      cases (W.tr G.w).testBit i <;> (repeat (first | rw [if_pos (by decide)] | rw [if_neg (by decide)])) <;> rfl
    have hL2 : lfM (kpt (alk W.tr (2 ^ i) G.w) G.L) (fhU s 44 n) := fun r hr => by
      rw [e44, hn r hr]
      by_cases q : r < W.N
      · rw [mx_lt q]
      · rw [mx_ge q]
        have e1 := lin_f hi (show W.N ≤ r by omega)
        have e2 : kpt (alk W.tr (2 ^ i) G.w) G.L r = false := by
          unfold kpt
          rw [e1, Bool.and_false]
        rw [e1, e2]
    rw [hv, show (2 : Int32) = nI 2 from rfl, wq_bind]
    refine wq_mono (m_noted (G := G) (S := psh G S) hW (mtb_a h1 hfr) hL2 (by rw [e44, hf _ (by omega)]; exact h2.2.1) (rd2 := G.rd) (by rw [e44, hf _ (by omega)]; exact h2.1) (kpM_a g2 (fun j hj => by rw [e44, hf _ (by omega)])) ⟨x, stkM_a hx (fun j => fhU_o (by decide)) (fhU_o (by decide)) (fhU_o (by decide))⟩ (by rw [fhU_o (by decide)]; exact h62) (lin_k hi)) (fun s2 y => ?_)
    have fin : mGm W (gTel W G i) (psh G S) s2 ∧ fr aDm σ s2 := ⟨y.1, fr_tr z2 (fr_tr hfr y.2)⟩
    cases qb : (W.tr G.w).testBit i with
    | true => rw [if_neg (by decide), wq_some, fhK_r]; exact ⟨rfl, fin⟩
    | false => rw [if_pos (by decide), wq_some, fhK_r]; exact ⟨rfl, fin⟩
/-- a fresh start with a row worn -/
def gNew (W : gW) (G : gG) (row : Nat) : gG := (0, row, W.al, G.H)
theorem m_worn (hW : wOK W) (hg : mGm W G S σ) {row : Nat} : wq (f_X12_isWorn (nI row) σ) (fun s => mGm W (gNew W G row) S s ∧ fr aDm σ s) := by
  have hN10 := hW.2.1
  obtain ⟨h1, h2, ⟨x, hx⟩, h62⟩ := hg
  have h52 := h1.1.2.2.1
  have h37 := h1.2.2.1
  have halN := hW.2.2.2.2.2.2.1
  unfold f_X12_isWorn f_X12_begins
  rw [wq_bind]
  refine wq_for (R := fun k y => ∃ n, y = (nI k, fhU σ 44 n) ∧ n 0 = 0 ∧ n 1 = nI row ∧ (∀ r, r < k → n (2 + r) = nI (if W.al r = true then 1 else 0)) ∧ ∀ j, 1026 ≤ j → n j = σ.1 44 j) 0 1024 (Nat.zero_le _) ?_ ?_ ⟨_, by rw [fhI_U (σ := σ), fhU_I]; rfl, ?_, ?_, fun r hr => absurd hr (Nat.not_lt_zero _), fun j hj => ?_⟩
  · rintro k y - hk ⟨n, rfl, n0, n1, hn, hf⟩
    (try dsimp only)
    unfold f_X12_begins_9 f_X12_begins_44 f_X12_begins_45
    have hst : ∀ b : Nat, (∃ n2, ((nI (k + 1), fhU σ 44 (fun j => if j = 2 + k then nI b else n j)) : Int32 × fhM) = (nI (k + 1), fhU σ 44 n2) ∧ n2 0 = 0 ∧ n2 1 = nI row ∧ (∀ r, r < k + 1 → n2 (2 + r) = nI (if r = k then b else if W.al r = true then 1 else 0)) ∧ ∀ j, 1026 ≤ j → n2 j = σ.1 44 j) := fun b => by
      refine ⟨_, rfl, ?_, ?_, fun r hr => ?_, fun j hj => ?_⟩
      · (try dsimp only)
        rw [if_neg (by omega)]; exact n0
      · (try dsimp only)
        rw [if_neg (by omega)]; exact n1
      · (try dsimp only)
        by_cases q : r = k
        · rw [if_pos (by omega), if_pos q]
        · rw [if_neg (by omega), if_neg q]
          exact hn r (by omega)
      · (try dsimp only)
        rw [if_neg (by omega)]; exact hf j hj
    have fix : ∀ b : Nat, b = (if W.al k = true then 1 else 0) → ∃ n2, ((nI (k + 1), fhU σ 44 (fun j => if j = 2 + k then nI b else n j)) : Int32 × fhM) = (nI (k + 1), fhU σ 44 n2) ∧ n2 0 = 0 ∧ n2 1 = nI row ∧ (∀ r, r < k + 1 → n2 (2 + r) = nI (if W.al r = true then 1 else 0)) ∧ ∀ j, 1026 ≤ j → n2 j = σ.1 44 j := fun b hb => by
      obtain ⟨n2, a1, a2, a3, a4, a5⟩ := hst b
      refine ⟨n2, a1, a2, a3, fun r hr => ?_, a5⟩
      rw [a4 r hr]
      by_cases q : r = k
      · rw [if_pos q, hb, q]
      · rw [if_neg q]
    rw [show (1024 : Int32) = nI 1024 from rfl, if_neg (nI_ge hk (by omega)), fhU_o (show 0 ≠ 44 by decide), h52, show (2 : Int32) = nI 2 from rfl, nI_add, nI_1]
    by_cases q : k < W.N
    · rw [if_neg (nI_ge q (by omega)), if_pos (ph_in1 (by omega) (by omega)), ph_ix (by omega), fhU_o (show 37 ≠ 44 by decide), h37 k q]
      cases qa : W.al k with
      | true =>
        rw [if_neg (by decide), if_pos (ph_in1 (by omega) (by omega)), ph_ix (by omega), show (1 : Int32) = nI 1 from rfl, fhU_I, wq_some, fhK_l]
        exact fix 1 (by rw [qa]; rfl)
      | false =>
        rw [if_pos (by decide), if_pos (ph_in1 (by omega) (by omega)), ph_ix (by omega), show (0 : Int32) = nI 0 from rfl, fhU_I, wq_some, fhK_l]
        exact fix 0 (by rw [qa]; rfl)
    · have qa : W.al k = false := by
        cases e : W.al k with
        | false => rfl
        | true => exact absurd (halN k e) q
      rw [if_pos (nI_le (by omega) (by omega)), if_pos (ph_in1 (by omega) (by omega)), ph_ix (by omega), show (0 : Int32) = nI 0 from rfl, fhU_I, wq_some, fhK_l]
      exact fix 0 (by rw [qa]; rfl)
  · rintro y ⟨n, rfl, n0, n1, hn, hf⟩
    (try dsimp only)
    unfold f_X12_begins_9
    rw [show (1024 : Int32) = nI 1024 from rfl, if_pos (nI_le (Nat.le_refl _) (by omega)), wq_some, fhK_r, wq_some]
    have e44 : ∀ j, (fhU σ 44 n).1 44 j = n j := fun j => fhU_e
    have hfr : fr aDm σ (fhU σ 44 n) := fr_U fr_rf (fun j => by unfold aDm; omega)
    have hk := kpM_a (s := fhU σ 44 n) (tbM_g (W := W) h2).2 (fun j hj => by rw [e44, hf _ hj])
    refine ⟨⟨mtb_a h1 hfr, ⟨?_, ?_, fun r hr => ?_, hk.1, hk.2.2⟩, ⟨x, stkM_a hx (fun j => fhU_o (by decide)) (fhU_o (by decide)) (fhU_o (by decide))⟩, by rw [fhU_o (by decide)]; exact h62⟩, hfr⟩
    · rw [e44]; exact n0
    · rw [e44]; exact n1
    · rw [e44]; exact hn r hr
  · (try dsimp only)
    rw [if_pos rfl]
  · (try dsimp only)
    rw [if_neg (by decide), if_pos rfl]
  · (try dsimp only)
    rw [if_neg (by omega), if_neg (by omega)]
end
