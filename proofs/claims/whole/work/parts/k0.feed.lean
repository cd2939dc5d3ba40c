/-! FEEDING: bytes -/
def xN (x : Int32) : Nat := x.toBitVec.toNat
theorem xN_lt (x : Int32) : xN x < 4294967296 := x.toBitVec.isLt
theorem and255 (y : Int32) : y &&& (255 : Int32) = nI (xN y % 256) := by
  apply Int32.toBitVec_inj.mp
  apply BitVec.eq_of_toNat_eq
  rw [Int32.toBitVec_and, BitVec.toNat_and]
  have h1 : ((255 : Int32).toBitVec).toNat = 2 ^ 8 - 1 := by decide
  rw [h1, Nat.and_two_pow_sub_one_eq_mod]
  have h2 : (nI (xN y % 256)).toBitVec.toNat = xN y % 256 := by
    have : xN y % 256 < 256 := Nat.mod_lt _ (by decide)
    show (BitVec.ofNat 32 (xN y % 256)).toNat = _
    rw [BitVec.toNat_ofNat, Nat.mod_eq_of_lt (by omega)]
  rw [h2]
  rfl
theorem xN_int (x : Int32) : x.toInt = if 2 * xN x < 4294967296 then (xN x : Int) else (xN x : Int) - 4294967296 := by
  show x.toBitVec.toInt = _
  rw [BitVec.toInt_eq_toNat_cond]
  rfl
def bytN (x : Int32) (b : Nat) : Nat := xN x / 2 ^ (8 * (3 - b)) % 256
theorem bytN_lt (x : Int32) (b : Nat) : bytN x b < 256 := Nat.mod_lt _ (by decide)
theorem by_us (x : Int32) {b : Nat} (hb : b < 4) : (fhus x (nI (8 * (3 - b)))) &&& (255 : Int32) = nI (bytN x b) := by
  rw [and255]
  unfold bytN
  congr 2
  have hk : (((nI (8 * (3 - b))).toUInt32 &&& Int32.toUInt32 31).toBitVec % 32).toNat = 8 * (3 - b) := by
    have : b = 0 ∨ b = 1 ∨ b = 2 ∨ b = 3 := by omega
    rcases this with rfl | rfl | rfl | rfl <;> decide
  exact pk_ushr x (nI (8 * (3 - b))) (8 * (3 - b)) hk
theorem by_ar (x : Int32) {b : Nat} (hb : b < 4) : (x >>> (nI (8 * (3 - b)) &&& 31)) &&& (255 : Int32) = nI (bytN x b) := by
  rw [and255]
  unfold bytN
  congr 1
  have h := pk_shr x (nI (8 * (3 - b)) &&& 31) (8 * (3 - b)) (ph_shk _ (by omega))
  have e1 := xN_int x
  have e2 := xN_int (x >>> (nI (8 * (3 - b)) &&& 31))
  have l1 := xN_lt x
  have l2 := xN_lt (x >>> (nI (8 * (3 - b)) &&& 31))
  rw [h, Int.shiftRight_eq_div_pow] at e2
  generalize xN (x >>> (nI (8 * (3 - b)) &&& 31)) = y at e2 l2
  generalize xN x = z at e1 l1
  rw [e1] at e2
  have : b = 0 ∨ b = 1 ∨ b = 2 ∨ b = 3 := by omega
  rcases this with rfl | rfl | rfl | rfl
  · show y % 256 = z / 16777216 % 256
    have e2 : (if 2 * z < 4294967296 then (z : Int) else (z : Int) - 4294967296) / 16777216 = if 2 * y < 4294967296 then (y : Int) else (y : Int) - 4294967296 := e2
    omega
  · show y % 256 = z / 65536 % 256
    have e2 : (if 2 * z < 4294967296 then (z : Int) else (z : Int) - 4294967296) / 65536 = if 2 * y < 4294967296 then (y : Int) else (y : Int) - 4294967296 := e2
    omega
  · show y % 256 = z / 256 % 256
    have e2 : (if 2 * z < 4294967296 then (z : Int) else (z : Int) - 4294967296) / 256 = if 2 * y < 4294967296 then (y : Int) else (y : Int) - 4294967296 := e2
    omega
  · show y % 256 = z / 1 % 256
    have e2 : (if 2 * z < 4294967296 then (z : Int) else (z : Int) - 4294967296) / 1 = if 2 * y < 4294967296 then (y : Int) else (y : Int) - 4294967296 := e2
    omega
/-- the tape with one byte more -/
def tpu (T : tT) (c : Nat) : tT := ((fun j => if j = T.2 then c else T.1 j), T.2 + 1)
section
variable {n : Nat} {A : aS} {σ τ : fhM}
theorem CS_b (h : CS A σ) {c : Nat} (hl : A.T.2 < 1600) : CS (aTU A (tpu A.T c)) (fhI (fhI σ 2 A.T.2 (nI c)) 0 1 (nI (A.T.2 + 1))) := by
  have e : ∀ t j, t ≠ 2 → (t ≠ 0 ∨ j ≠ 1) → (fhI (fhI σ 2 A.T.2 (nI c)) 0 1 (nI (A.T.2 + 1))).1 t j = σ.1 t j := fun t j a b => by
    rw [fhI_r, if_neg (by omega), fhI_o a]
  refine ⟨CS0_k h.1 (fun t j z => e t j (by unfold kpC at z; omega) (by unfold kpC at z; omega)) (fun t j z => rfl), ?_⟩
  obtain ⟨⟨a1, a2⟩, ⟨b1, b2⟩, cc, ⟨d1, d2⟩, e1, f1, f2⟩ := h.2
  refine ⟨⟨fhI_e, fun j hj => ?_⟩, ⟨by rw [e _ _ (by decide) (by decide)]; exact b1, fun k hk => by rw [e _ _ (by decide) (Or.inl (by decide))]; exact b2 k hk⟩, fun j hj => by rw [e _ _ (by decide) (Or.inl (by decide))]; exact cc j hj, ⟨by rw [e _ _ (by decide) (by decide)]; exact d1, by rw [e _ _ (by decide) (by decide)]; exact d2⟩, by rw [e _ _ (by decide) (by decide)]; exact e1, by rw [e _ _ (by decide) (by decide)]; exact f1, fun j hj => by rw [e _ _ (by decide) (Or.inl (by decide))]; exact f2 j hj⟩
  rw [fhI_o (by decide)]
  show _ = nI (if j = A.T.2 then c else A.T.1 j)
  have hj : j < A.T.2 + 1 := hj
  by_cases q : j = A.T.2
  · rw [if_pos q, q, fhI_e]
  · rw [if_neg q, fhI_s q]
    exact a2 j (by omega)
theorem MS_b (h : MS A τ) {c : Nat} (hl : A.T.2 < 1600) : MS (aTU A (tpu A.T c)) (fhI (fhI τ 1 A.T.2 (nI c)) 0 1 (nI (A.T.2 + 1))) := by
  have e : ∀ t j, t ≠ 1 → (t ≠ 0 ∨ j ≠ 1) → (fhI (fhI τ 1 A.T.2 (nI c)) 0 1 (nI (A.T.2 + 1))).1 t j = τ.1 t j := fun t j a b => by
    rw [fhI_r, if_neg (by omega), fhI_o a]
  refine ⟨MS0_k h.1 (fun t j z => e t j (by unfold kpQ kpW at z; omega) (by unfold kpQ kpW at z; omega)) (fun _ => rfl), ?_⟩
  obtain ⟨⟨a1, a2⟩, ⟨b1, b2⟩, cc, ⟨d1, d2⟩, e1, f1, f2⟩ := h.2
  refine ⟨⟨fhI_e, fun j hj => ?_⟩, ⟨by rw [e _ _ (by decide) (by decide)]; exact b1, fun k hk => by rw [e _ _ (by decide) (Or.inl (by decide))]; exact b2 k hk⟩, fun j hj => by rw [e _ _ (by decide) (Or.inl (by decide))]; exact cc j hj, ⟨by rw [e _ _ (by decide) (by decide)]; exact d1, by rw [e _ _ (by decide) (by decide)]; exact d2⟩, e1, by rw [e _ _ (by decide) (by decide)]; exact f1, fun j hj => by rw [e _ _ (by decide) (Or.inl (by decide))]; exact f2 j hj⟩
  rw [fhI_o (by decide)]
  show _ = nI (if j = A.T.2 then c else A.T.1 j)
  have hj : j < A.T.2 + 1 := hj
  by_cases q : j = A.T.2
  · rw [if_pos q, q, fhI_e]
  · rw [if_neg q, fhI_s q]
    exact a2 j (by omega)
/-- the tape with more bytes -/
def tpw (T : tT) (f : Nat → Nat) : Nat → tT
  | 0 => T
  | k + 1 => tpu (tpw T f k) (f k)
theorem tpw_2 (T : tT) (f : Nat → Nat) : ∀ k, (tpw T f k).2 = T.2 + k
  | 0 => rfl
  | k + 1 => by
    show (tpw T f k).2 + 1 = _
    rw [tpw_2 T f k]
    rfl
theorem tpw_ok {T : tT} {f : Nat → Nat} (hf : ∀ k, f k < 256) (hT : ∀ i, T.1 i < 256) : ∀ k i, (tpw T f k).1 i < 256
  | 0, i => hT i
  | k + 1, i => by
    show (if i = (tpw T f k).2 then f k else (tpw T f k).1 i) < 256
    split
    · exact hf k
    · exact tpw_ok hf hT k i
theorem aTU_T (A : aS) (T T2 : tT) : aTU (aTU A T) T2 = aTU A T2 := rfl
def bts (v1 v2 v3 v4 v5 : Int32) (k : Nat) : Nat := bytN (if k < 4 then v1 else if k < 8 then v2 else if k < 12 then v3 else if k < 16 then v4 else v5) (k % 4)
theorem c_put4 {f : Nat → Nat} {x : Int32} {k0 : Nat} (hf : ∀ b, b < 4 → f (k0 + b) = bytN x b) (h : CS (aTU A (tpw A.T f k0)) σ) (hl : A.T.2 + k0 + 4 ≤ 1600) : wq (f_X11_putFour x σ) (fun s => CS (aTU A (tpw A.T f (k0 + 4))) s) := by
  unfold f_X11_putFour
  refine wq_for (R := fun b y => ∃ s, y = (iI (24 - 8 * (b : Int)), s) ∧ CS (aTU A (tpw A.T f (k0 + b))) s) 0 4 (by decide) ?_ ?_ ⟨σ, rfl, h⟩
  · rintro b y - hb ⟨s, rfl, hs⟩
    (try dsimp only)
    unfold f_X11_putFour_3
    have h01 := hs.2.1.1
    have hT2 : (aTU A (tpw A.T f (k0 + b))).T.2 = A.T.2 + (k0 + b) := tpw_2 _ _ _
    have e8 : iI (24 - 8 * (b : Int)) = nI (8 * (3 - b)) := by
      rw [← iI_n (by omega)]
      congr 1
      omega
    rw [e8, if_neg (by rw [nI_lt0 (by omega)]; exact id), h01, by_us x (by omega), cp1 (by rw [hT2]; omega), nI_1, wq_some, fhK_l]
    have e9 : nI (8 * (3 - b)) + (-8 : Int32) = iI (24 - 8 * ((b + 1 : Nat) : Int)) := by
      have : b = 0 ∨ b = 1 ∨ b = 2 ∨ b = 3 := by omega
      rcases this with rfl | rfl | rfl | rfl <;> decide
    rw [e9]
    refine ⟨_, rfl, ?_⟩
    have := CS_b hs (c := bytN x b) (by rw [hT2]; omega)
    rw [← hf b (by omega)] at this
    rw [← hf b (by omega)]
    exact this
  · rintro y ⟨s, rfl, hs⟩
    (try dsimp only)
    unfold f_X11_putFour_3
    rw [if_pos (by decide), wq_some, fhK_r]
    exact hs
theorem p_feed (hc : CS A σ) (hm : MS A τ) (hv : AV n A) (v1 v2 v3 v4 v5 : Int32) : okQ n (f_X11_feed v1 v2 v3 v4 v5 σ) (f_X12_feed v1 v2 v3 v4 v5 τ) := by
  have hT1 := hv.1.1
  have e20 : (nI A.T.2 + (20 : Int32)) = nI (A.T.2 + 20) := by rw [show (20 : Int32) = nI 20 from rfl, nI_add]
  by_cases c : A.T.2 + 20 ≤ 1600
  · have fb : ∀ k x, (k < 4 → x = v1) → (4 ≤ k → k < 8 → x = v2) → (8 ≤ k → k < 12 → x = v3) → (12 ≤ k → k < 16 → x = v4) → (16 ≤ k → x = v5) → bts v1 v2 v3 v4 v5 k = bytN x (k % 4) := fun k x h1 h2 h3 h4 h5 => by
      unfold bts
      congr 1
      split
      · rename_i h; exact (h1 h).symm
      · split
        · rename_i a b; exact (h2 (by omega) b).symm
        · split
          · rename_i a b; exact (h3 (by omega) b).symm
          · split
            · rename_i a b; exact (h4 (by omega) b).symm
            · exact (h5 (by omega)).symm
    refine okQ_w (v := nI (A.T.2 + 20)) (P := fun _ => True) (Q := fun _ => True) (B := aTU A (tpw A.T (bts v1 v2 v3 v4 v5) 20)) ?_ ?_ ?_
    · unfold f_X11_feed
      rw [hc.2.1.1, e20, if_pos (show nI (A.T.2 + 20) ≤ (1600 : Int32) from nI_le (b := 1600) c (by omega)), wq_bind]
      refine wq_mono (c_put4 (A := A) (f := bts v1 v2 v3 v4 v5) (x := v1) (k0 := 0) (fun b hb => ?_) hc (by omega)) ?_
      · rw [fb (0 + b) v1 (fun _ => rfl) (fun _ _ => by omega) (fun _ _ => by omega) (fun _ _ => by omega) (fun _ => by omega)]
        congr 1
        omega
      intro s1 h1
      rw [wq_bind]
      refine wq_mono (c_put4 (A := A) (f := bts v1 v2 v3 v4 v5) (x := v2) (k0 := 4) (fun b hb => ?_) h1 (by omega)) ?_
      · rw [fb (4 + b) v2 (fun _ => by omega) (fun _ _ => rfl) (fun _ _ => by omega) (fun _ _ => by omega) (fun _ => by omega)]
        congr 1
        omega
      intro s2 h2
      rw [wq_bind]
      refine wq_mono (c_put4 (A := A) (f := bts v1 v2 v3 v4 v5) (x := v3) (k0 := 8) (fun b hb => ?_) h2 (by omega)) ?_
      · rw [fb (8 + b) v3 (fun _ => by omega) (fun _ _ => by omega) (fun _ _ => rfl) (fun _ _ => by omega) (fun _ => by omega)]
        congr 1
        omega
      intro s3 h3
      rw [wq_bind]
      refine wq_mono (c_put4 (A := A) (f := bts v1 v2 v3 v4 v5) (x := v4) (k0 := 12) (fun b hb => ?_) h3 (by omega)) ?_
      · rw [fb (12 + b) v4 (fun _ => by omega) (fun _ _ => by omega) (fun _ _ => by omega) (fun _ _ => rfl) (fun _ => by omega)]
        congr 1
        omega
      intro s4 h4
      rw [wq_bind]
      refine wq_mono (c_put4 (A := A) (f := bts v1 v2 v3 v4 v5) (x := v5) (k0 := 16) (fun b hb => ?_) h4 (by omega)) ?_
      · rw [fb (16 + b) v5 (fun _ => by omega) (fun _ _ => by omega) (fun _ _ => by omega) (fun _ _ => by omega) (fun _ => rfl)]
        congr 1
        omega
      intro s5 h5
      rw [wq_some]
      refine ⟨?_, h5⟩
      show s5.1 0 1 = _
      rw [h5.2.1.1]
      congr 1
    · unfold f_X12_feed
      rw [hm.2.1.1, e20, if_pos (show nI (A.T.2 + 20) ≤ (1600 : Int32) from nI_le (b := 1600) c (by omega))]
      refine wq_for (R := fun k y => ∃ s, y = (nI k, s) ∧ MS (aTU A (tpw A.T (bts v1 v2 v3 v4 v5) k)) s) 0 20 (by decide) ?_ ?_ ⟨τ, rfl, hm⟩
      · rintro k y - hk ⟨s, rfl, hs⟩
        (try dsimp only)
        unfold f_X12_feed_28 f_X12_feed_81
        have h01 := hs.2.1.1
        have hT2 : (aTU A (tpw A.T (bts v1 v2 v3 v4 v5) k)).T.2 = A.T.2 + k := tpw_2 _ _ _
        have hsel : (if (4 : Int32) ≤ nI k then (if (8 : Int32) ≤ nI k then (if (12 : Int32) ≤ nI k then (if (16 : Int32) ≤ nI k then v5 else v4) else v3) else v2) else v1) = (if k < 4 then v1 else if k < 8 then v2 else if k < 12 then v3 else if k < 16 then v4 else v5) := by
          have l : ∀ {a : Nat}, a < 100 → (nI a ≤ nI k) = (a ≤ k) := fun h => nI_leP (by omega) (by omega)
          rw [show (4 : Int32) = nI 4 from rfl, show (8 : Int32) = nI 8 from rfl, show (12 : Int32) = nI 12 from rfl, show (16 : Int32) = nI 16 from rfl]
          by_cases c4 : k < 4
          · rw [if_neg (by rw [l (by decide)]; omega), if_pos c4]
          · rw [if_pos (by rw [l (by decide)]; omega), if_neg c4]
            by_cases c8 : k < 8
            · rw [if_neg (by rw [l (by decide)]; omega), if_pos c8]
            · rw [if_pos (by rw [l (by decide)]; omega), if_neg c8]
              by_cases c12 : k < 12
              · rw [if_neg (by rw [l (by decide)]; omega), if_pos c12]
              · rw [if_pos (by rw [l (by decide)]; omega), if_neg c12]
                by_cases c16 : k < 16
                · rw [if_neg (by rw [l (by decide)]; omega), if_pos c16]
                · rw [if_pos (by rw [l (by decide)]; omega), if_neg c16]
        have hsh : ((8 : Int32) * ((3 : Int32) - (fhrem (nI k) (4 : Int32)))) = nI (8 * (3 - k % 4)) := by
          rw [show (4 : Int32) = nI 4 from rfl, ph_rem (by omega) (by omega) (by omega), show (3 : Int32) = nI 3 from rfl, nI_sub (by omega), show (8 : Int32) = nI 8 from rfl, pk_mul]
        rw [if_neg (show ¬ (20 : Int32) ≤ nI k by rw [show (20 : Int32) = nI 20 from rfl, nI_leP (by omega) (by omega)]; omega), hsel, hsh, by_ar _ (by omega), h01, if_pos (ph_in1 (by rw [hT2]; omega) (by rw [hT2]; omega)), ph_ix (by rw [hT2]; omega), nI_1, nI_1, wq_some, fhK_l]
        exact ⟨_, rfl, MS_b hs (by rw [hT2]; omega)⟩
      · rintro y ⟨s, rfl, hs⟩
        (try dsimp only)
        unfold f_X12_feed_28
        rw [if_pos (by decide), wq_some, fhK_r]
        refine ⟨?_, hs⟩
        show s.1 0 1 = _
        rw [hs.2.1.1]
        congr 1
    · obtain ⟨a1, a2⟩ := AV_s hv
      refine ⟨⟨?_, tpw_ok (fun k => bytN_lt _ _) hv.1.2 20⟩, a2⟩
      show (tpw A.T (bts v1 v2 v3 v4 v5) 20).2 ≤ 1600
      rw [tpw_2]
      exact c
  · have nle : ¬ nI (A.T.2 + 20) ≤ (1600 : Int32) := by
      rw [show (1600 : Int32) = nI 1600 from rfl, nI_leP (by omega) (by omega)]
      exact c
    refine okQ_r hc hm hv (k := 0) (v := -1) (by decide) ?_ ?_
    · unfold f_X11_feed fhlet
      rw [hc.2.1.1, e20, if_neg nle, show (0 : Int32) = nI 0 from rfl, c_refuse (by decide)]
    · unfold f_X12_feed
      rw [hm.2.1.1, e20, if_neg nle]
end
