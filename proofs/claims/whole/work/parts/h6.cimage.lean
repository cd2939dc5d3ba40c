/-! THE CLASS: image -/
def picB (W : gW) (G : gG) (j : Nat) : Nat := if j = psz W - 1 then chkN (picF W G) (psz W - 1) else picF W G j
section
variable {W : gW} {G : gG}
theorem c_psz {σ : fhM} (hW : wOK W) (h9 : σ.1 39 9 = nI W.g) (h11 : σ.1 39 11 = nI W.N) : f_X11_pictureSize σ = nI (psz W) := by
  have := hW.2.1
  unfold f_X11_pictureSize psz nbt
  rw [h9, h11, show (2 : Int32) = nI 2 from rfl, show (7 : Int32) = nI 7 from rfl, show (8 : Int32) = nI 8 from rfl, nI_add, nI_add, nI_div (by omega) (by omega), nI_add, nI_1]
theorem c_image (hW : wOK W) {σ : fhM} (hrw : rwF W σ) (h11 : σ.1 39 11 = nI W.N) (hg : gmF W G.L G.w G.rd σ) (hw : 0 < W.g → G.w < W.N) (hr : G.rd ≤ 999) (hi : lin W G.L) : wq (f_X11_image σ) (fun r => r.1 = nI (psz W) ∧ ∃ f, r.2 = fhI (fhU σ 99 f) 0 14 (nI (psz W)) ∧ ∀ j, j < psz W → f j = nI (picB W G j)) := by
  have hg5 := hW.1
  have hN10 := hW.2.1
  obtain ⟨hb1, hb2, hb3⟩ := nbt_le hW
  obtain ⟨g1, g2, g3, g4, g5⟩ := hg
  have hll := rl_len W.N G.L
  have hpz : psz W = 2 + W.g + nbt W + 1 := rfl
  have hst : fcP (fcP (fcW σ 98) 98 (0 : Int32) ((σ.1 56 10) >>> ((8 : Int32) &&& 31))) 98 (1 : Int32) ((σ.1 56 10) &&& (255 : Int32)) = fhU σ 99 (fun j => if j = 1 then nI (G.rd % 256) else if j = 0 then nI (G.rd / 256) else if j < 136 then 0 else σ.1 99 j) := by
    rw [g3, show ((8 : Int32) &&& 31) = (nI 8 &&& 31) from rfl, ph_shr (by omega) (by omega), show (255 : Int32) = nI 255 from rfl, ph_and, show G.rd &&& 255 = G.rd % 256 from Nat.and_two_pow_sub_one_eq_mod G.rd 8]
    rw [show ∀ s v, fcP s 98 (0 : Int32) v = fhI s 99 0 v from fun s v => cp98 (k := 0) (by omega), show ∀ s v, fcP s 98 (1 : Int32) v = fhI s 99 1 v from fun s v => cp98 (k := 1) (by omega), fcW_U (show fcL 98 = 136 from rfl), fhU_I, fhU_I]
  unfold f_X11_image
  rw [hst]
  refine wq_for (R := fun k x => ∃ f, x = (nI k, fhU σ 99 f) ∧ (∀ j, j < 2 + k → f j = nI (picF W G j)) ∧ ∀ j, 2 + k ≤ j → j < 136 → f j = 0) 0 W.g (Nat.zero_le _) ?_ ?_ ⟨_, rfl, fun j hj => ?_, fun j hj hj2 => ?_⟩
  · rintro k x - hk ⟨f, rfl, f1, f2⟩
    (try dsimp only)
    unfold f_X11_image_46
    have hwN := hw (by omega)
    rw [fhU_o (show 39 ≠ 99 by decide), hrw.1, if_neg (nI_ge hk (by omega)), fhU_o (show 56 ≠ 99 by decide), g2, c_markOf hW (rwF_U hrw (by decide) (by decide) (by decide)) hwN hk, show (2 : Int32) = nI 2 from rfl, nI_add, cp98 (by omega), fhU_I, nI_1, wq_some, fhK_l]
    refine ⟨_, rfl, fun j hj => ?_, fun j hj hj2 => ?_⟩
    · (try dsimp only)
      by_cases q : j = 2 + k
      · rw [if_pos q, q]
        unfold picF
        rw [if_neg (by omega), if_neg (by omega), if_pos (by omega), show 2 + k - 2 = k from by omega]
      · rw [if_neg q]
        exact f1 j (by omega)
    · (try dsimp only)
      rw [if_neg (by omega)]
      exact f2 j (by omega) hj2
  · rintro x ⟨f, rfl, f1, f2⟩
    (try dsimp only)
    unfold f_X11_image_46
    rw [fhU_o (show 39 ≠ 99 by decide), hrw.1, if_pos (nI_le (Nat.le_refl _) (by omega)), wq_map]
    refine wq_for (R := fun k x => ∃ f, x = (nI k, fhU σ 99 f) ∧ (∀ j, j < 2 + W.g → f j = nI (picF W G j)) ∧ ∀ q, 2 + W.g + q < 136 → f (2 + W.g + q) = nI (bbL ((rl W.N G.L).take k) q)) 0 (rl W.N G.L).length (Nat.zero_le _) ?_ ?_ ⟨f, rfl, f1, fun q hq => f2 _ (by omega) hq⟩
    · rintro k x - hk ⟨f, rfl, f1, f2⟩
      (try dsimp only)
      unfold f_X11_image_100 fhlet
      (try dsimp only)
      obtain ⟨x1, x2⟩ := rl_mem.mp (getD_mem hk)
      have e7 : (rl W.N G.L).getD k 0 &&& 7 = (rl W.N G.L).getD k 0 % 8 := Nat.and_two_pow_sub_one_eq_mod _ 3
      rw [fhU_o (show 56 ≠ 99 by decide), g1, if_neg (nI_ge hk (by omega)), cg72 (by omega), fhU_o (show 73 ≠ 99 by decide), g4 k hk, show ((3 : Int32) &&& 31) = (nI 3 &&& 31) from rfl, ph_shr (by omega) (by omega), show (7 : Int32) = nI 7 from rfl, ph_and, e7, show (2 : Int32) = nI 2 from rfl, nI_add, nI_add, show 2 ^ 3 = 8 from rfl, ph_shl1 (by omega)]
      generalize hx : (rl W.N G.L).getD k 0 = y at x1 x2
      rw [cg98 (by omega), fhU_e, f2 _ (by omega), ph_or, cp98 (by omega), fhU_I, nI_1, wq_some, fhK_l]
      refine ⟨_, rfl, fun j hj => ?_, fun q hq => ?_⟩
      · (try dsimp only)
        rw [if_neg (by omega)]
        exact f1 j hj
      · (try dsimp only)
        rw [take_s hk, bbL_s, hx]
        by_cases c : y / 8 = q
        · rw [if_pos (by omega), if_pos c, c]
        · rw [if_neg (by omega), if_neg c]
          exact f2 q hq
    · rintro x ⟨f, rfl, f1, f2⟩
      (try dsimp only)
      unfold f_X11_image_100
      have sz1 : f_X11_pictureSize (fhU σ 99 f) = nI (psz W) := c_psz hW (by rw [fhU_o (by decide)]; exact hrw.1) (by rw [fhU_o (by decide)]; exact h11)
      have hf : ∀ j, j < psz W - 1 → f j = nI (picF W G j) := fun j hj => by
        rcases Nat.lt_or_ge j (2 + W.g) with c | c
        · exact f1 j c
        · have := f2 (j - 2 - W.g) (by omega)
          rw [List.take_length, bbL_lin hi, show 2 + W.g + (j - 2 - W.g) = j from by omega] at this
          rw [this]
          unfold picF
          rw [if_neg (by omega), if_neg (by omega), if_neg (by omega)]
      rw [fhU_o (show 56 ≠ 99 by decide), g1, if_pos (nI_le (Nat.le_refl _) (by omega)), sz1, nI_dec (by omega), c_chk (v0 := 98) (N0 := 136) (f := picF W G) rfl (by omega) (by decide) (fun j hj => by rw [fhI_o (by decide), fhU_e]; exact hf j hj) (picF_lt hW hr hw), wq_bind, wq_some, wq_some, fhK_r, fhK_r, cp98 (by omega), fhI_IO (t := 0) (a := 99) (Or.inl (by decide)), fhU_I]
      refine ⟨rfl, _, rfl, fun j hj => ?_⟩
      (try dsimp only)
      unfold picB
      by_cases c : j = psz W - 1
      · rw [if_pos c, if_pos c]
      · rw [if_neg c, if_neg c]
        exact hf j (by omega)
  · (try dsimp only)
    unfold picF
    by_cases c : j = 0
    · rw [if_neg (by omega), if_pos c, if_pos c]
    · rw [if_pos (by omega), if_neg c, if_pos (by omega)]
  · (try dsimp only)
    rw [if_neg (by omega), if_neg (by omega), if_pos hj2]
end
