set_option maxHeartbeats 4000000 in
/-- ONE INSTRUCTION: what the function says, the machine does -/
theorem fh1_ok {Y : fhY} {P : fhP} {L : Nat → Nat → Option Int64} (hPP : fhPok Y P) (hLL : fhLok L) {own : Nat} {cc : ByteArray} {nL : Nat} {ret : Option FieldType} {Γ : fhX} (hΓ : fhOk Y own cc nL ret Γ) {i : Instr} {v : Int32} {pc : Nat} {lv lv' : List (Nat × Value)} {st st' : List Value} {σ σ' : fhM} {g : Bool}
    (hd : decode cc pc = .ok (i, fhlen i)) (hk : fhkok i v = true) (h1 : fh1 Y P L own nL i v lv st σ = some (g, lv', st', σ')) (hg : g = true) (kk : fhW Y Γ (pc + fhlen i) lv' st' σ') : fhW Y Γ pc lv st σ := by
  obtain ⟨⟨l, D, b, cA, X⟩, d, p, e, s, m, args, below, meth, c, r, σe⟩ := Γ
  obtain ⟨hx, hb, hml, hown, hts, hK, hr, hlk, hX, hXs⟩ := hΓ
  subst hml
  intro ls H locs hl hP hS
  have hD := fhws_D (Y := Y) (b := b) (cA := cA) (σ := σ)
  cases i with
  | iconst n =>
    cases h1
    exact lv_iconst hx hb hd (of_decide_eq_true hk) (kk ls H locs hl hP hS)
  | bipush n =>
    cases h1
    exact lv_bipush hx hb hd (of_decide_eq_true hk) (kk ls H locs hl hP hS)
  | sipush n =>
    cases h1
    exact lv_sipush hx hb hd (of_decide_eq_true hk) (kk ls H locs hl hP hS)
  | lconst n =>
    match n, hd, h1, kk with
    | 0, hd, h1, kk => cases h1; exact lv_lconst hx hb hd rfl (kk ls H locs hl hP hS)
    | 1, hd, h1, kk => cases h1; exact lv_lconst hx hb hd rfl (kk ls H locs hl hP hS)
  | ldc2_w k =>
    simp only [fh1] at h1
    split at h1
    · rename_i x hx2
      cases h1
      exact lv_ldc2 hx hb hown (hts _ (hLL _ _ _ hx2)) hd (kk ls H locs hl hP hS)
    · cases h1
  | iload k =>
    simp only [fh1, fhldi] at h1
    split at h1
    · rename_i x hx2
      cases h1
      exact lv_iload hx hb hd (fhgl_has hl hx2) (kk ls H locs hl hP hS)
    · cases h1
  | iload_n k =>
    simp only [fh1, fhldi] at h1
    split at h1
    · rename_i x hx2
      cases h1
      exact lv_iload_n hx hb hd rfl (fhgl_has hl hx2) (kk ls H locs hl hP hS)
    · cases h1
  | lload k =>
    simp only [fh1, fhldl] at h1
    split at h1
    · rename_i x hx2
      cases h1
      exact lv_lload hx hb hd (fhgl_has hl hx2) (kk ls H locs hl hP hS)
    · cases h1
  | lload_n k =>
    simp only [fh1, fhldl] at h1
    split at h1
    · rename_i x hx2
      cases h1
      exact lv_lload_n hx hb hd rfl (fhgl_has hl hx2) (kk ls H locs hl hP hS)
    · cases h1
  | aload k =>
    simp only [fh1, fhlda] at h1
    split at h1
    · rename_i x hx2
      cases h1
      exact lv_aload hx hb hd (fhgl_has hl hx2) (kk ls H locs hl hP hS)
    · cases h1
  | aload_n k =>
    simp only [fh1, fhlda] at h1
    split at h1
    · rename_i x hx2
      cases h1
      exact lv_aload_n hx hb hd rfl (fhgl_has hl hx2) (kk ls H locs hl hP hS)
    · cases h1
  | istore k =>
    simp only [fh1, fhsti] at h1
    split at h1
    · rename_i x r2
      cases hn : Nat.blt k c.maxLocals with
      | false => rw [hn] at h1; cases h1
      | true =>
        rw [hn] at h1
        cases h1
        exact lv_istore hx hb hd hl (fhblt hn) (lv' := fhcl b ((k, .int x) :: fhf1 k lv)) (by rw [← fhf1_eq]; rfl) (fun ls' hl' => kk ls' H locs hl' hP hS)
    · cases h1
  | istore_n k =>
    simp only [fh1, fhsti] at h1
    split at h1
    · rename_i x r2
      cases hn : Nat.blt k.val c.maxLocals with
      | false => rw [hn] at h1; cases h1
      | true =>
        rw [hn] at h1
        cases h1
        exact lv_istore_n hx hb hd rfl hl (fhblt hn) (lv' := fhcl b ((k.val, .int x) :: fhf1 k.val lv)) (by rw [← fhf1_eq]; rfl) (fun ls' hl' => kk ls' H locs hl' hP hS)
    · cases h1
  | lstore k =>
    simp only [fh1, fhstl] at h1
    split at h1
    · rename_i x r2
      cases hn : Nat.blt (k + 1) c.maxLocals with
      | false => rw [hn] at h1; cases h1
      | true =>
        rw [hn] at h1
        cases h1
        exact lv_lstore hx hb hd hl (fhblt hn) (lv' := fhcl b ((k, .long x) :: fhf2 k lv)) (by rw [← fhf2_eq]; rfl) (fun ls' hl' => kk ls' H locs hl' hP hS)
    · cases h1
  | lstore_n k =>
    simp only [fh1, fhstl] at h1
    split at h1
    · rename_i x r2
      cases hn : Nat.blt (k.val + 1) c.maxLocals with
      | false => rw [hn] at h1; cases h1
      | true =>
        rw [hn] at h1
        cases h1
        exact lv_lstore_n hx hb hd rfl hl (fhblt hn) (lv' := fhcl b ((k.val, .long x) :: fhf2 k.val lv)) (by rw [← fhf2_eq]; rfl) (fun ls' hl' => kk ls' H locs hl' hP hS)
    · cases h1
  | astore k =>
    simp only [fh1, fhsta] at h1
    split at h1
    · rename_i x r2
      cases hn : Nat.blt k c.maxLocals with
      | false => rw [hn] at h1; cases h1
      | true =>
        rw [hn] at h1
        cases h1
        exact lv_astore hx hb hd hl (fhblt hn) (lv' := fhcl b ((k, .ref x) :: fhf1 k lv)) (by rw [← fhf1_eq]; rfl) (fun ls' hl' => kk ls' H locs hl' hP hS)
    · cases h1
  | astore_n k =>
    simp only [fh1, fhsta] at h1
    split at h1
    · rename_i x r2
      cases hn : Nat.blt k.val c.maxLocals with
      | false => rw [hn] at h1; cases h1
      | true =>
        rw [hn] at h1
        cases h1
        exact lv_astore_n hx hb hd rfl hl (fhblt hn) (lv' := fhcl b ((k.val, .ref x) :: fhf1 k.val lv)) (by rw [← fhf1_eq]; rfl) (fun ls' hl' => kk ls' H locs hl' hP hS)
    · cases h1
  | iinc k n =>
    simp only [fh1, fhinc] at h1
    split at h1
    · rename_i x hx2
      cases hn : Nat.blt k c.maxLocals with
      | false => rw [hn] at h1; cases h1
      | true =>
        rw [hn] at h1
        cases h1
        have hk2 : Int32.ofInt n = v := of_decide_eq_true hk
        subst hk2
        obtain ⟨ls', e', h'⟩ := lv_store1 (v := .int (x + Int32.ofInt n)) hl (fhblt hn) rfl
        rw [← fhf1_eq] at h'
        have hg2 := fhgl_has hl hx2
        intro T hT X
        obtain ⟨t, a, b1⟩ := kk ls' H locs h' hP hS T hT X
        refine ⟨t, ?_, b1⟩
        have hg3 : ls[k]? = some (.val (.int x)) := hg2
        jvm_step X.here [X.here.top, ↓top_set X.here.top, hx, hb, hd, hg3, e']
        exact a
    · cases h1
  | iadd =>
    simp only [fh1, fhii] at h1
    split at h1
    · cases h1; exact lv_iadd hx hb hd (kk ls H locs hl hP hS)
    · cases h1
  | isub =>
    simp only [fh1, fhii] at h1
    split at h1
    · cases h1; exact lv_isub hx hb hd (kk ls H locs hl hP hS)
    · cases h1
  | imul =>
    simp only [fh1, fhii] at h1
    split at h1
    · cases h1; exact lv_imul hx hb hd (kk ls H locs hl hP hS)
    · cases h1
  | iand =>
    simp only [fh1, fhii] at h1
    split at h1
    · cases h1; exact lv_iand hx hb hd (kk ls H locs hl hP hS)
    · cases h1
  | ior =>
    simp only [fh1, fhii] at h1
    split at h1
    · cases h1; exact lv_ior hx hb hd (kk ls H locs hl hP hS)
    · cases h1
  | ixor =>
    simp only [fh1, fhii] at h1
    split at h1
    · cases h1; exact lv_ixor hx hb hd (kk ls H locs hl hP hS)
    · cases h1
  | ishl =>
    simp only [fh1, fhii] at h1
    split at h1
    · cases h1; exact lv_ishl hx hb hd (kk ls H locs hl hP hS)
    · cases h1
  | ishr =>
    simp only [fh1, fhii] at h1
    split at h1
    · cases h1; exact lv_ishr hx hb hd (kk ls H locs hl hP hS)
    · cases h1
  | iushr =>
    simp only [fh1, fhii] at h1
    split at h1
    · cases h1; exact lv_iushr hx hb hd rfl (kk ls H locs hl hP hS)
    · cases h1
  | ladd =>
    simp only [fh1, fhll] at h1
    split at h1
    · cases h1; exact lv_ladd hx hb hd (kk ls H locs hl hP hS)
    · cases h1
  | lsub =>
    simp only [fh1, fhll] at h1
    split at h1
    · cases h1; exact lv_lsub hx hb hd (kk ls H locs hl hP hS)
    · cases h1
  | lmul =>
    simp only [fh1, fhll] at h1
    split at h1
    · cases h1; exact lv_lmul hx hb hd (kk ls H locs hl hP hS)
    · cases h1
  | land =>
    simp only [fh1, fhll] at h1
    split at h1
    · cases h1; exact lv_land hx hb hd (kk ls H locs hl hP hS)
    · cases h1
  | idiv =>
    simp only [fh1] at h1
    split at h1
    · cases h1
      exact lv_idiv hx hb hd (by simpa [fhnz] using hg) (kk ls H locs hl hP hS)
    · cases h1
  | irem =>
    simp only [fh1] at h1
    split at h1
    · cases h1
      exact lv_irem hx hb hd (by simpa [fhnz] using hg) (kk ls H locs hl hP hS)
    · cases h1
  | ldiv =>
    simp only [fh1] at h1
    split at h1
    · cases h1
      exact lv_ldiv hx hb hd (by simpa [fhnzl] using hg) (kk ls H locs hl hP hS)
    · cases h1
  | lrem =>
    simp only [fh1] at h1
    split at h1
    · cases h1
      exact lv_lrem hx hb hd (by simpa [fhnzl] using hg) (kk ls H locs hl hP hS)
    · cases h1
  | i2l =>
    simp only [fh1] at h1
    split at h1
    · cases h1; exact lv_i2l hx hb hd rfl (kk ls H locs hl hP hS)
    · cases h1
  | l2i =>
    simp only [fh1] at h1
    split at h1
    · cases h1; exact lv_l2i hx hb hd rfl (kk ls H locs hl hP hS)
    · cases h1
  | lcmp =>
    simp only [fh1] at h1
    split at h1
    · cases h1; exact W.lcmp hx hb hd (kk ls H locs hl hP hS)
    · cases h1
  | pop =>
    simp only [fh1] at h1
    split at h1
    · rename_i w r2
      cases hc : fhc2 w with
      | true => rw [hc] at h1; cases h1
      | false =>
        rw [hc] at h1
        cases h1
        have hcat : (fhcv b w).category = 1 := by rw [fhcv_cat]; cases w <;> first | rfl | cases hc
        exact lv_pop hx hb hd hcat (kk ls H locs hl hP hS)
    · cases h1
  | dup =>
    simp only [fh1] at h1
    split at h1
    · rename_i w r2
      cases hc : fhc2 w with
      | true => rw [hc] at h1; cases h1
      | false =>
        rw [hc] at h1
        cases h1
        have hcat : (fhcv b w).category = 1 := by rw [fhcv_cat]; cases w <;> first | rfl | cases hc
        exact lv_dup hx hb hd hcat (kk ls H locs hl hP hS)
    · cases h1
  | dup2 =>
    simp only [fh1] at h1
    split at h1
    · rename_i w u r2
      cases hc : fhc2 w with
      | true => rw [hc] at h1; cases h1
      | false =>
        cases hc2 : fhc2 u with
        | true => rw [hc, hc2] at h1; cases h1
        | false =>
          rw [hc, hc2] at h1
          cases h1
          have hcat : (fhcv b w).category = 1 := by rw [fhcv_cat]; cases w <;> first | rfl | cases hc
          have hcat2 : (fhcv b u).category = 1 := by rw [fhcv_cat]; cases u <;> first | rfl | cases hc2
          exact lv_dup2_11 hx hb hd hcat hcat2 (kk ls H locs hl hP hS)
    · cases h1
  | arraylength =>
    simp only [fh1] at h1
    split at h1
    · rename_i t r2
      cases h1
      obtain ⟨g1, g2⟩ := fhand hg
      obtain ⟨g3, g4⟩ := fhand g2
      have e1 := Nat.eq_of_beq_eq_true g1
      have ha : (fhws Y b cA σ)[t]? = some (b + t, .inl (cA (Y.1 t).2.1, (Y.1 t).2.2, fharr σ t (Y.1 t).2.1)) := by rw [fhws_at (fhblt g3), fhent_arr e1]
      have g5 := fhblt g4
      rcases (show (Y.1 t).2.1 = 0 ∨ (Y.1 t).2.1 = 1 ∨ (Y.1 t).2.1 = 2 ∨ (Y.1 t).2.1 = 3 by omega) with q | q | q | q
      · rw [q] at ha; exact va_alen hx hb hK hP t 0 ha rfl rfl hd (kk ls H locs hl hP hS)
      · rw [q] at ha; exact va_alen hx hb hK hP t 1 ha rfl rfl hd (kk ls H locs hl hP hS)
      · rw [q] at ha; exact va_alen hx hb hK hP t 2 ha rfl rfl hd (kk ls H locs hl hP hS)
      · rw [q] at ha; exact va_alen hx hb hK hP t 3 ha rfl rfl hd (kk ls H locs hl hP hS)
    · cases h1
  | iaload =>
    simp only [fh1, fhal] at h1
    split at h1
    · cases h1
      obtain ⟨ha, hi, -, -⟩ := fharr_at (b := b) (cA := cA) (σ := σ) hg
      rw [fharr_i (Or.inl rfl)] at ha
      exact va_iald hx hb hK hP _ 0 ha rfl (fhin_vp hi) hd (kk ls H locs hl hP hS)
    · cases h1
  | caload =>
    simp only [fh1, fhal] at h1
    split at h1
    · cases h1
      obtain ⟨ha, hi, -, -⟩ := fharr_at (b := b) (cA := cA) (σ := σ) hg
      rw [fharr_i (Or.inr (Or.inl rfl))] at ha
      exact va_cald hx hb hK hP _ 1 ha rfl (fhin_vp hi) hd (kk ls H locs hl hP hS)
    · cases h1
  | baload =>
    simp only [fh1, fhal] at h1
    split at h1
    · cases h1
      obtain ⟨ha, hi, -, -⟩ := fharr_at (b := b) (cA := cA) (σ := σ) hg
      rw [fharr_i (Or.inr (Or.inr rfl))] at ha
      exact va_zald hx hb hK hP _ 2 ha rfl (fhin_vp hi) hd (kk ls H locs hl hP hS)
    · cases h1
  | laload =>
    simp only [fh1] at h1
    split at h1
    · cases h1
      obtain ⟨ha, hi, -, -⟩ := fharr_at (b := b) (cA := cA) (σ := σ) hg
      exact va_lald hx hb hK hP _ 3 ha rfl (fhin_vp hi) hd (kk ls H locs hl hP hS)
    · cases h1
  | iastore =>
    simp only [fh1, fhas] at h1
    split at h1
    · cases h1
      obtain ⟨ha, hi, e1, e2⟩ := fharr_at (b := b) (cA := cA) (σ := σ) hg
      rw [fharr_i (Or.inl rfl)] at ha
      refine va_iast hx hb hK hP hD hS _ 0 ha rfl (fhin_vp hi) hd (fun H1 locs1 hP1 hD1 hS1 => ?_)
      rw [fhset_ai e1 e2 (Or.inl rfl)] at hP1
      exact kk ls H1 locs1 hl hP1 hS1
    · cases h1
  | bastore =>
    simp only [fh1, fhas] at h1
    split at h1
    · cases h1
      obtain ⟨ha, hi, e1, e2⟩ := fharr_at (b := b) (cA := cA) (σ := σ) hg
      rw [fharr_i (Or.inr (Or.inr rfl))] at ha
      refine va_zast hx hb hK hP hD hS _ 2 ha rfl (fhin_vp hi) hd (fun H1 locs1 hP1 hD1 hS1 => ?_)
      rw [fhset_ai e1 e2 (Or.inr (Or.inr rfl))] at hP1
      exact kk ls H1 locs1 hl hP1 hS1
    · cases h1
  | lastore =>
    simp only [fh1] at h1
    split at h1
    · cases h1
      obtain ⟨ha, hi, e1, e2⟩ := fharr_at (b := b) (cA := cA) (σ := σ) hg
      refine va_last hx hb hK hP hD hS _ 3 ha rfl (fhin_vp hi) hd (fun H1 locs1 hP1 hD1 hS1 => ?_)
      rw [fhset_aj e1 e2] at hP1
      exact kk ls H1 locs1 hl hP1 hS1
    · cases h1
  | getfield k =>
    simp only [fh1, fhget] at h1
    split at h1
    · rename_i x j t r2 hp
      cases h1
      obtain ⟨ha, hi, -, -⟩ := fhobj_at (b := b) (cA := cA) (σ := σ) hg
      obtain ⟨C, T, N, ty0, hc, hin, hty, hnm, hj, hlink, -⟩ := hPP _ _ _ _ hp
      rcases hlink with hlink | ⟨⟨host, hlink⟩, -⟩
      · exact va_get hx hb hts hin hown hK hP t ha hc j hj (hts _ hlink) (fun _ h => h) (fhrng _ (fhblt hi)) hd (kk ls H locs hl hP hS)
      · exact va_getN hx hb hts hin hown hK hP t ha hc j hj (hts _ hlink) (fun _ h => h) (fhrng _ (fhblt hi)) hd (kk ls H locs hl hP hS)
    · cases h1
  | putfield k =>
    simp only [fh1, fhput] at h1
    split at h1
    · rename_i x j w t r2 hp
      split at h1
      · rename_i a hy
        cases h1
        obtain ⟨ha, hi, e1, e2⟩ := fhobj_at (b := b) (cA := cA) (σ := σ) hg
        obtain ⟨C, T, N, ty0, hc, hin, hty, hnm, hj, hlink, k0, -, -, -⟩ := hPP _ _ _ _ hp
        obtain ⟨hf, hT⟩ := k0 (by rw [hy])
        rcases hlink with hlink | ⟨-, hlink⟩
        · refine va_put hx hb hts hin ty0 hty hnm hown hK hP hD hS t ha hc j hj (hts _ hlink) (fun _ h => h) hf (hty j hj) (by rw [hT]; rfl) (by rw [hT]; rfl) (by simpa using fhblt hi) hd (fun H1 locs1 hP1 hD1 hS1 => ?_)
          have hs := fhset_f (σ' := fhI σ t j w) (w := .int w) (b := b) (cA := cA) e1 e2 (by unfold fhfv; rw [hy]; show Value.int (fhup σ.1 t j w t j) = _; rw [fhup_eq]) (fun k hk => fhfv_off (fhup_ne hk) rfl rfl) fhent_I
          exact kk ls H1 locs1 hl (by rw [← hs]; exact hP1) hS1
        · rw [hy] at hlink; cases hlink
      · rename_i a hy
        cases h1
        obtain ⟨ha, hi, e1, e2⟩ := fhobj_at (b := b) (cA := cA) (σ := σ) hg
        obtain ⟨hi, hbit⟩ := fhand hi
        have hw : w = 0 ∨ w = 1 := by simpa [fhbit] using hbit
        obtain ⟨C, T, N, ty0, hc, hin, hty, hnm, hj, hlink, -, k0, -, -⟩ := hPP _ _ _ _ hp
        obtain ⟨hf, hT⟩ := k0 (by rw [hy])
        rcases hlink with hlink | ⟨-, hlink⟩
        · refine va_put hx hb hts hin ty0 hty hnm hown hK hP hD hS t ha hc j hj (hts _ hlink) (fun _ h => h) hf (hty j hj) (v := .int w) (by rw [hT]; rcases hw with rfl | rfl <;> decide) (by rw [hT]; rcases hw with rfl | rfl <;> decide) (by simpa using fhblt hi) hd (fun H1 locs1 hP1 hD1 hS1 => ?_)
          have hs := fhset_f (σ' := fhI σ t j w) (w := .int w) (b := b) (cA := cA) e1 e2 (by unfold fhfv; rw [hy]; show Value.int (fhup σ.1 t j w t j) = _; rw [fhup_eq]) (fun k hk => fhfv_off (fhup_ne hk) rfl rfl) fhent_I
          exact kk ls H1 locs1 hl (by rw [← hs]; exact hP1) hS1
        · rw [hy] at hlink; cases hlink
      · cases h1
    · rename_i x j w t r2 hp
      split at h1
      · rename_i a hy
        cases h1
        obtain ⟨ha, hi, e1, e2⟩ := fhobj_at (b := b) (cA := cA) (σ := σ) hg
        obtain ⟨C, T, N, ty0, hc, hin, hty, hnm, hj, hlink, -, -, k0, -⟩ := hPP _ _ _ _ hp
        obtain ⟨hf, hT⟩ := k0 (by rw [hy])
        rcases hlink with hlink | ⟨-, hlink⟩
        · refine va_put hx hb hts hin ty0 hty hnm hown hK hP hD hS t ha hc j hj (hts _ hlink) (fun _ h => h) hf (hty j hj) (by rw [hT]; rfl) (by rw [hT]; rfl) (by simpa using fhblt hi) hd (fun H1 locs1 hP1 hD1 hS1 => ?_)
          have hs := fhset_f (σ' := fhJ σ t j w) (w := .long w) (b := b) (cA := cA) e1 e2 (by unfold fhfv; rw [hy]; show Value.long (fhup σ.2.1 t j w t j) = _; rw [fhup_eq]) (fun k hk => fhfv_off (σ := σ) (σ' := fhJ σ t j w) rfl (fhup_ne hk) rfl) fhent_J
          exact kk ls H1 locs1 hl (by rw [← hs]; exact hP1) hS1
        · rw [hy] at hlink; cases hlink
      · cases h1
    · rename_i x j w t r2 hp
      split at h1
      · rename_i a hy
        cases h1
        obtain ⟨ha, hi, e1, e2⟩ := fhobj_at (b := b) (cA := cA) (σ := σ) hg
        obtain ⟨C, T, N, ty0, hc, hin, hty, hnm, hj, hlink, -, -, -, k0⟩ := hPP _ _ _ _ hp
        obtain ⟨hf, C', hT⟩ := k0 (Or.inl (by rw [hy]))
        rcases hlink with hlink | ⟨-, hlink⟩
        · refine va_put hx hb hts hin ty0 hty hnm hown hK hP hD hS t ha hc j hj (hts _ hlink) (fun _ h => h) hf (hty j hj) (by rw [hT]; rfl) (by rw [hT]; rfl) (by simpa using fhblt hi) hd (fun H1 locs1 hP1 hD1 hS1 => ?_)
          have hs := fhset_f (σ' := fhR σ t j w) (w := .ref w) (b := b) (cA := cA) e1 e2 (by unfold fhfv; rw [hy]; show Value.ref (fhup σ.2.2 t j w t j) = _; rw [fhup_eq]) (fun k hk => fhfv_off (σ := σ) (σ' := fhR σ t j w) rfl rfl (fhup_ne hk)) fhent_R
          exact kk ls H1 locs1 hl (by rw [← hs]; exact hP1) hS1
        · rw [hy] at hlink; cases hlink
      · rename_i a hy
        cases h1
        obtain ⟨ha, hi, e1, e2⟩ := fhobj_at (b := b) (cA := cA) (σ := σ) hg
        obtain ⟨hi, hpos⟩ := fhand hi
        have hpos := fhblt hpos
        obtain ⟨C, T, N, ty0, hc, hin, hty, hnm, hj, hlink, -, -, -, k0⟩ := hPP _ _ _ _ hp
        obtain ⟨hf, C', hT⟩ := k0 (Or.inr (by rw [hy]))
        rcases hlink with hlink | ⟨-, hlink⟩
        · refine va_put hx hb hts hin ty0 hty hnm hown hK hP hD hS t ha hc j hj (hts _ hlink) (fun _ h => h) hf (hty j hj) (by rw [hT]; rfl) (by rw [hT]; rfl) (by simpa using fhblt hi) hd (fun H1 locs1 hP1 hD1 hS1 => ?_)
          have hs := fhset_f (σ' := fhR σ t j w) (w := .ref w) (b := b) (cA := cA) e1 e2 (by unfold fhfv; rw [hy]; show fhnv (fhup σ.2.2 t j w t j) = _; rw [fhup_eq]; cases w with
            | zero => exact absurd hpos (Nat.lt_irrefl 0)
            | succ n => rfl) (fun k hk => fhfv_off (σ := σ) (σ' := fhR σ t j w) rfl rfl (fhup_ne hk)) fhent_R
          exact kk ls H1 locs1 hl (by rw [← hs]; exact hP1) hS1
        · rw [hy] at hlink; cases hlink
      · cases h1
    · cases h1
  | _ => cases h1
/-! BLOCKS: a list of instructions, run -/
abbrev fhIs : Type := List (Instr × Int32)
def fhchk (cc : ByteArray) : Nat → fhIs → Bool
  | _, [] => true
  | pc, q :: is => decide (decode cc pc = .ok (q.1, fhlen q.1)) && (fhkok q.1 q.2 && fhchk cc (pc + fhlen q.1) is)
def fhend : Nat → fhIs → Nat
  | pc, [] => pc
  | pc, q :: is => fhend (pc + fhlen q.1) is
def fhrun (Y : fhY) (P : fhP) (L : Nat → Nat → Option Int64) (own nL : Nat) : fhIs → List (Nat × Value) → List Value → fhM → fhO
  | [], lv, st, σ => some (true, lv, st, σ)
  | q :: is, lv, st, σ => match fh1 Y P L own nL q.1 q.2 lv st σ with
    | none => none
    | some r => match fhrun Y P L own nL is r.2.1 r.2.2.1 r.2.2.2 with
      | none => none
      | some r2 => some (r.1 && r2.1, r2.2)
theorem fhW.blk {Y : fhY} {P : fhP} {L : Nat → Nat → Option Int64} (hPP : fhPok Y P) (hLL : fhLok L) {own : Nat} {cc : ByteArray} {nL : Nat} {ret : Option FieldType} {Γ : fhX} (hΓ : fhOk Y own cc nL ret Γ) (is : fhIs) {pc pc' : Nat} {lv lv' : List (Nat × Value)} {st st' : List Value} {σ σ' : fhM} {g : Bool}
    (hd : fhchk cc pc is = true) (hr : fhrun Y P L own nL is lv st σ = some (g, lv', st', σ')) (hp : fhend pc is = pc') (hg : g = true) (kk : fhW Y Γ pc' lv' st' σ') : fhW Y Γ pc lv st σ := by
  induction is generalizing pc lv st σ g with
  | nil =>
    cases hr
    have hp2 : pc = pc' := hp
    subst hp2
    exact kk
  | cons q is ih =>
    unfold fhchk at hd
    obtain ⟨h1, h2⟩ := fhand hd
    obtain ⟨h2, h3⟩ := fhand h2
    unfold fhrun at hr
    cases e1 : fh1 Y P L own nL q.1 q.2 lv st σ with
    | none => rw [e1] at hr; cases hr
    | some r =>
      rw [e1] at hr
      dsimp only at hr
      cases e2 : fhrun Y P L own nL is r.2.1 r.2.2.1 r.2.2.2 with
      | none => rw [e2] at hr; cases hr
      | some r2 =>
        rw [e2] at hr
        dsimp only at hr
        have e3 := Option.some.inj hr
        have g1 : (r.1 && r2.1) = g := congrArg Prod.fst e3
        have g2 : r2.2 = (lv', st', σ') := congrArg Prod.snd e3
        subst hg
        obtain ⟨ga, gb⟩ := fhand g1
        refine fh1_ok hPP hLL hΓ (of_decide_eq_true h1) h2 (e1.trans (by rfl)) ga ?_
        exact ih h3 (e2.trans (by rw [← g2])) hp gb
