/-! ANEW in the class: one round for all groups -/
theorem getD_L {l m : List Nat} {j : Nat} (h : j < l.length) : (l ++ m).getD j 0 = l.getD j 0 := by
  rw [List.getD_eq_getElem?_getD, List.getD_eq_getElem?_getD, List.getElem?_append_left h]
theorem getD_R {l m : List Nat} {j : Nat} : (l ++ m).getD (l.length + j) 0 = m.getD j 0 := by
  rw [List.getD_eq_getElem?_getD, List.getD_eq_getElem?_getD, List.getElem?_append_right (by omega), Nat.add_sub_cancel_left]
theorem fl_at : ∀ {gs : List (List Nat)} {j k : Nat} {l : List Nat}, gs[j]? = some l → k < l.length → gs.flatten.getD ((gs.take j).flatten.length + k) 0 = l.getD k 0
  | [], j, _, _, h, _ => by rw [List.getElem?_nil] at h; cases h
  | p :: gs, 0, k, l, h, hk => by
    rw [List.getElem?_cons_zero] at h
    cases h
    rw [List.take_zero, List.flatten_nil, List.length_nil, Nat.zero_add, List.flatten_cons, getD_L hk]
  | p :: gs, j + 1, k, l, h, hk => by
    rw [List.getElem?_cons_succ] at h
    rw [List.take_succ_cons, List.flatten_cons, List.flatten_cons, List.length_append, Nat.add_assoc, getD_R]
    exact fl_at h hk
theorem take_g {gs : List (List Nat)} {j : Nat} {l : List Nat} (h : gs[j]? = some l) : gs.take (j + 1) = gs.take j ++ [l] := by
  rw [List.take_add_one, h]
  rfl
theorem splt_a (W : gW) (x : List (List Nat)) (l : List Nat) : splt W (x ++ [l]) = splt W x ++ pcs W l (2 ^ W.g) := by
  unfold splt
  rw [List.flatMap_append]
  simp
theorem splt_ne {W : gW} {gs : List (List Nat)} : ∀ p ∈ splt W gs, p ≠ [] := fun p hp => by
  obtain ⟨l, _, h⟩ := List.mem_flatMap.mp hp
  exact pcs_all p h
def anD (t : Nat) : Prop := t = 76 ∨ t = 78 ∨ t = 80 ∨ t = 82 ∨ t = 84 ∨ t = 86 ∨ t = 88
def anR (σ s : fhM) : Prop := fpl anD σ s ∧ ∀ j, j ≠ 5 → j ≠ 6 → s.1 76 j = σ.1 76 j
theorem anR_rf {σ : fhM} : anR σ σ := ⟨⟨fun _ _ _ => ⟨rfl, rfl⟩, rfl⟩, fun _ _ _ => rfl⟩
theorem anR_tr {a b c : fhM} (h1 : anR a b) (h2 : anR b c) : anR a c := ⟨fpl_tr2 h1.1 h2.1, fun j x y => by rw [h2.2 j x y, h1.2 j x y]⟩
def anS (W : gW) (n : Nat) (gs : List (List Nat)) (A B C D : Nat) (s : fhM) : Prop := swp A B 77 79 ∧ swp C D 81 83 ∧ (s.2.2 76 1 = A ∧ s.2.2 76 2 = B ∧ s.2.2 76 3 = C ∧ s.2.2 76 4 = D) ∧ lsT (s.1 (A + 1)) gs.flatten ∧ (∀ j, j ≤ gs.length → s.1 (C + 1) j = nI (gs.take j).flatten.length) ∧ s.1 76 5 = nI gs.length ∧ ∀ r i, W.al r = true → i < W.g → s.1 88 (r * 5 + i) = nI (fkR W r i n)
theorem rwF_eq {W : gW} {σ s : fhM} (h : rwF W σ) (e : ∀ t j, t = 39 ∨ t = 43 ∨ t = 45 → s.1 t j = σ.1 t j) : rwF W s := ⟨by rw [e 39 9 (Or.inl rfl)]; exact h.1, fun r i a b => by rw [e 43 _ (Or.inr (Or.inl rfl))]; exact h.2.1 r i a b, fun r i a b => by rw [e 45 _ (Or.inr (Or.inr rfl))]; exact h.2.2 r i a b⟩
def rdD (B D t j : Nat) : Prop := t = B + 1 ∨ t = D + 1 ∨ t = 86 ∨ t = 88 ∨ (t = 76 ∧ j = 6)
theorem c_splitGs {W : gW} (hW : wOK W) {σ : fhM} {A B C D n : Nat} {gs : List (List Nat)} (hS : anS W n gs A B C D σ) (hI : gI W n gs) (hrw : rwF W σ) (hz : psF σ) (h12 : σ.1 39 12 = nI (rl W.N W.al).length) (hn : n ≤ 20) :
    wq (f_X1_splitGroups (nI n) σ) (fun s => anS W (n + 1) (splt W gs) B A D C s ∧ anR σ s) := by
  obtain ⟨hAB, hCD, ⟨r1, r2, r3, r4⟩, hls, hst, h5, h88⟩ := hS
  obtain ⟨oA, oB, iA, iB⟩ := swp_o hAB
  obtain ⟨oC, oD, iC, iD⟩ := swp_s hCD
  have hg5 := hW.1
  have hN10 := hW.2.1
  have hlen := hI.2.1
  have hrl := rl_len W.N W.al
  have hgl : gs.length ≤ gs.flatten.length := len_fl (fun p hp => (hI.2.2 p hp).1)
  have hsl : (splt W gs).length ≤ gs.flatten.length := by
    have := len_fl (splt_ne (W := W) (gs := gs))
    rw [splt_fl] at this
    exact this
  unfold f_X1_splitGroups
  refine wq_for (R := fun j x => ∃ s, x = (nI j, s) ∧ fr (rdD B D) σ s ∧ s.1 76 6 = nI (splt W (gs.take j)).length ∧ lsT (s.1 (B + 1)) (splt W (gs.take j)).flatten ∧ dT (s.1 (D + 1)) (splt W (gs.take j)) ∧ ∀ r i, W.al r = true → i < W.g → s.1 88 (r * 5 + i) = nI (if r ∈ (gs.take j).flatten then fkR W r i (n + 1) else fkR W r i n)) 0 gs.length (Nat.zero_le _) ?_ ?_ ⟨_, rfl, ?_, ?_, ?_, ?_, ?_⟩
  · rintro j x - hj ⟨s, rfl, hf, s6, sl, sd, s88⟩
    (try dsimp only)
    unfold f_X1_splitGroups_7
    obtain ⟨l, hl⟩ : ∃ l, gs[j]? = some l := ⟨gs[j], List.getElem?_eq_getElem hj⟩
    have hlm : l ∈ gs := List.mem_of_getElem? hl
    have e76 : ∀ k, k ≠ 6 → s.1 76 k = σ.1 76 k := fun k hk => hf.2 76 k (fun z => by unfold rdD at z; omega)
    have eo : ∀ t k, t ≠ B + 1 → t ≠ D + 1 → t ≠ 86 → t ≠ 88 → t ≠ 76 → s.1 t k = σ.1 t k := fun t k a b c d e => hf.2 t k (fun z => by unfold rdD at z; omega)
    have q1 : s.2.2 76 1 = A := by rw [hf.1]; exact r1
    have q2 : s.2.2 76 2 = B := by rw [hf.1]; exact r2
    have q3 : s.2.2 76 3 = C := by rw [hf.1]; exact r3
    have q4 : s.2.2 76 4 = D := by rw [hf.1]; exact r4
    have tk := take_g hl
    have hfl : (gs.take (j + 1)).flatten.length = (gs.take j).flatten.length + l.length := by
      rw [tk, fl_s, List.length_append]
    have hfl2 : (gs.take (j + 1)).flatten.length ≤ gs.flatten.length := by
      have e := congrArg (fun x : List (List Nat) => x.flatten.length) (List.take_append_drop (j + 1) gs)
      (try dsimp only at e)
      rw [List.flatten_append, List.length_append] at e
      omega
    generalize ha : (gs.take j).flatten.length = a at hfl
    have hs0 := hst j (by omega)
    have hs1 := hst (j + 1) (by omega)
    rw [ha] at hs0
    rw [hfl] at hs1
    rw [e76 5 (by decide), h5, if_neg (nI_ge hj (by omega)), q3, q1, if_pos iC, if_pos iA, nI_1, fcG_at oC (by omega) (by omega), fcG_at oC (by omega) (by omega), eo (C + 1) j (by omega) (by omega) (by omega) (by omega) (by omega), eo (C + 1) (j + 1) (by omega) (by omega) (by omega) (by omega) (by omega), hs0, hs1, wq_bind]
    have hrows : ∀ r ∈ l, r < W.N := fun r hr => rl_lt r (gI_lt hI hlm hr)
    have hals : ∀ r ∈ l, W.al r = true := fun r hr => (rl_mem.mp (gI_lt hI hlm hr)).2
    have ls0 : lsF W A a l s := ⟨hrows, by omega, fun k hk => by
      rw [fcG_at oA (by omega) (by omega), eo (A + 1) _ (by omega) (by omega) (by omega) (by omega) (by omega), hls (a + k) (by omega), ← ha, fl_at hl hk]⟩
    have hrw0 : rwF W s := rwF_eq hrw (fun t k ht => eo t k (by omega) (by omega) (by omega) (by omega) (by omega))
    have hz0 : psF s := fun k hk => by rw [eo 49 k (by omega) (by omega) (by omega) (by omega) (by omega)]; exact hz k hk
    refine wq_mono (c_know hW (kp := 85) hrw0 ls0 hz0 rfl (by omega) (by omega) (by decide) (by decide) (by decide) (by decide)) ?_
    rintro s1 ⟨t, rfl, t1, -⟩
    rw [wq_bind]
    have hrw1 : rwF W (fhU s 86 t) := rwF_U hrw0 (by decide) (by decide) (by decide)
    refine wq_mono (c_noteK hW (σ := fhU s 86 t) hAB q1 (lsF_U ls0 (by omega)) hrw1.1 (fun r hr => by rw [fhU_e, t1 r hr]) (F := fun r i => if r ∈ (gs.take j).flatten then fkR W r i (n + 1) else fkR W r i n) (fun r i => by (try dsimp only); split <;> exact fkR_le W r i _) (fun r i hr hi => by rw [fhU_o (by decide)]; exact s88 r i (hals r hr) hi) (by omega)) ?_
    rintro s2 ⟨u, rfl, u1, u2⟩
    rw [wq_bind]
    refine wq_mono (c_splitG hW (σ := fhU (fhU s 86 t) 88 u) (done := splt W (gs.take j)) hAB hCD q1 q2 q4 (lsF_U (lsF_U ls0 (by omega)) (by omega)) ?_ ?_ ?_ ?_ ?_ ?_ splt_ne) ?_
    · rw [fhU_o (show 39 ≠ 88 by decide), hrw1.1]
    · intro r hr
      rw [fhU_o (show 86 ≠ 88 by decide), fhU_e, t1 r hr]
    · intro k hk
      rw [fhU_o (by omega), fhU_o (by omega)]
      exact sl k hk
    · rw [splt_fl]
      exact ha
    · intro k hk
      rw [fhU_o (by omega), fhU_o (by omega)]
      exact sd k hk
    · rw [fhU_o (by decide), fhU_o (by decide)]
      exact s6
    rintro s3 ⟨f, d, rfl, f1, d1⟩
    rw [wq_some, fhK_l, tk, splt_a]
    refine ⟨_, rfl, ?_, ?_, ?_, ?_, ?_⟩
    · refine fr_U (fr_I (fr_U (fr_U (fr_U hf (fun k => ?_)) (fun k => ?_)) (fun k => ?_)) ?_) (fun k => ?_) <;> (unfold rdD; omega)
    · rw [fhU_o (by omega), fhI_e]
    · intro k hk
      rw [fhU_e]
      exact f1 k hk
    · intro k hk
      rw [fhU_o (by omega), fhI_o (by omega), fhU_e]
      exact d1 k hk
    · intro r i hr hi
      rw [fhU_o (by omega), fhI_o (by omega), fhU_o (by omega), fhU_e, fl_s]
      by_cases c : r ∈ l
      · rw [u1 r i c hi, if_pos (List.mem_append.mpr (Or.inr c)), gI_kH hI hlm c]
        congr 1
        (try dsimp only)
        have e : fkR W r i (n + 1) = if (kH W n r).testBit i = true then min (fkR W r i n) n else fkR W r i n := rfl
        rw [e]
        by_cases b : (kH W n r).testBit i = true
        · rw [if_pos b, if_pos b]
          split <;> omega
        · rw [if_neg b, if_neg b]
          split <;> rfl
      · rw [u2 r i c (by omega), fhU_o (by decide), s88 r i hr hi]
        congr 1
        by_cases b : r ∈ (gs.take j).flatten
        · rw [if_pos b, if_pos (List.mem_append.mpr (Or.inl b))]
        · rw [if_neg b, if_neg (fun z => (List.mem_append.mp z).elim b c)]
  · rintro x ⟨s, rfl, hf, s6, sl, sd, s88⟩
    (try dsimp only)
    unfold f_X1_splitGroups_7
    rw [List.take_length] at s6 sl sd s88
    have e76 : ∀ k, k ≠ 6 → s.1 76 k = σ.1 76 k := fun k hk => hf.2 76 k (fun z => by unfold rdD at z; omega)
    have eo : ∀ t k, t ≠ B + 1 → t ≠ D + 1 → t ≠ 86 → t ≠ 88 → t ≠ 76 → s.1 t k = σ.1 t k := fun t k a b c d e => hf.2 t k (fun z => by unfold rdD at z; omega)
    have q1 : s.2.2 76 1 = A := by rw [hf.1]; exact r1
    have q2 : s.2.2 76 2 = B := by rw [hf.1]; exact r2
    have q3 : s.2.2 76 3 = C := by rw [hf.1]; exact r3
    have q4 : s.2.2 76 4 = D := by rw [hf.1]; exact r4
    rw [e76 5 (by decide), h5, if_pos (nI_le (Nat.le_refl _) (by omega)), q4, if_pos iD, q1, q2, q3, s6, eo 39 12 (by omega) (by omega) (by omega) (by omega) (by omega), h12, wq_some, fhK_r, fcP_at oD (by omega) (by omega)]
    refine ⟨⟨hAB.imp (fun z => ⟨z.2, z.1⟩) (fun z => ⟨z.2, z.1⟩) |>.symm, hCD.imp (fun z => ⟨z.2, z.1⟩) (fun z => ⟨z.2, z.1⟩) |>.symm, ⟨?_, ?_, ?_, ?_⟩, ?_, ?_, ?_, ?_⟩, ⟨fun t k ht => ⟨?_, ?_⟩, ?_⟩, fun k h1 h2 => ?_⟩
    · rw [fhI_2, fhR_r, if_neg (by decide), fhR_r, if_neg (by decide), fhR_r, if_neg (by decide), fhR_r, if_pos (by decide)]
    · rw [fhI_2, fhR_r, if_neg (by decide), fhR_r, if_neg (by decide), fhR_r, if_pos (by decide)]
    · rw [fhI_2, fhR_r, if_neg (by decide), fhR_r, if_pos (by decide)]
    · rw [fhI_2, fhR_r, if_pos (by decide)]
    · intro k hk
      rw [fhI_o (by omega), fhR_1, fhR_1, fhR_1, fhR_1, fhI_o (by omega)]
      exact sl k hk
    · intro k hk
      rw [fhI_o (by omega), fhR_1, fhR_1, fhR_1, fhR_1]
      rcases Nat.lt_or_ge k (splt W gs).length with c | c
      · rw [fhI_s (by omega)]
        exact sd k c
      · have : k = (splt W gs).length := by omega
        rw [this, fhI_e, List.take_length, splt_fl, hlen]
    · rw [fhI_e, fhI_o (by omega), s6]
    · intro r i hr hi
      rw [fhI_o (by omega), fhR_1, fhR_1, fhR_1, fhR_1, fhI_o (by omega), s88 r i hr hi, if_pos ((hI.1 r).mpr (al_rl hW hr))]
    · have : t ≠ 76 ∧ t ≠ D + 1 ∧ t ≠ B + 1 ∧ t ≠ 86 ∧ t ≠ 88 := by unfold anD at ht; omega
      rw [fhI_o this.1, fhR_1, fhR_1, fhR_1, fhR_1, fhI_o this.2.1, eo t k (by omega) (by omega) (by omega) (by omega) (by omega)]
    · have : t ≠ 76 := by unfold anD at ht; omega
      rw [fhI_2, fhR_r, if_neg (by omega), fhR_r, if_neg (by omega), fhR_r, if_neg (by omega), fhR_r, if_neg (by omega), fhI_2, hf.1]
    · rw [fhI_2, fhR_21, fhR_21, fhR_21, fhR_21, fhI_2, hf.1]
    · rw [fhI_s h1, fhR_1, fhR_1, fhR_1, fhR_1, fhI_o (by omega), e76 k h2]
  · exact fr_I fr_rf (by unfold rdD; omega)
  · rw [List.take_zero, fhI_e]
    rfl
  · rw [List.take_zero]
    exact fun k hk => absurd hk (Nat.not_lt_zero _)
  · rw [List.take_zero]
    exact fun k hk => absurd hk (Nat.not_lt_zero _)
  · intro r i hr hi
    rw [fhI_o (by decide), h88 r i hr hi, if_neg (by rw [List.take_zero]; exact fun z => (by cases z))]
