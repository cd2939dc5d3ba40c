/-! ANEW in the class: splitting one group -/
theorem flt_s (T : Nat → Nat) (l : List Nat) (k : Nat) : (l.filter (fun r => decide (T r < k + 1))).length = (l.filter (fun r => decide (T r < k))).length + (l.filter (fun r => decide (T r = k))).length := by
  rw [← List.countP_eq_length_filter, ← List.countP_eq_length_filter, ← List.countP_eq_length_filter]
  induction l with
  | nil => rfl
  | cons x xs ih =>
    rw [List.countP_cons, List.countP_cons, List.countP_cons, ih]
    by_cases q : T x < k
    · have q2 : T x < k + 1 := by omega
      have q3 : ¬ T x = k := by omega
      simp only [q, q2, q3, decide_true, decide_false, if_true, if_false, Bool.false_eq_true]
      omega
    · by_cases q3 : T x = k
      · have q2 : T x < k + 1 := by omega
        simp only [q2, q3, decide_true, decide_false, if_true, if_false, Bool.false_eq_true, Nat.lt_irrefl, Nat.lt_succ_self]
        omega
      · have q2 : ¬ T x < k + 1 := by omega
        simp only [q, q2, q3, decide_true, decide_false, if_true, if_false, Bool.false_eq_true]
        omega
theorem pcs_done {W : gW} {l : List Nat} {v : Nat} (h : l.length ≤ (pcs W l v).flatten.length) : ∀ k, pcs W l (v + k) = pcs W l v
  | 0 => rfl
  | k + 1 => by
    have ih := pcs_done h k
    show (if l.filter (fun r => decide (kb W l r = v + k)) = [] then pcs W l (v + k) else pcs W l (v + k) ++ [l.filter (fun r => decide (kb W l r = v + k))]) = _
    rw [pcs_len] at h
    have h2 := List.length_filter_le (fun r => decide (kb W l r < v)) l
    have h3 := List.length_filter_eq_length_iff.mp (Nat.le_antisymm h2 h)
    rw [if_pos (List.filter_eq_nil_iff.mpr (fun r hr => ?_)), ih]
    have := of_decide_eq_true (h3 r hr)
    rw [decide_eq_true_iff]
    omega
def dT (d : Nat → Int32) (gs : List (List Nat)) : Prop := ∀ j, j < gs.length → d j = nI (gs.take j).flatten.length
theorem dT_a {d : Nat → Int32} {gs : List (List Nat)} (h : dT d gs) (p : List Nat) : dT (fun j => if j = gs.length then nI gs.flatten.length else d j) (gs ++ [p]) := by
  intro j hj
  rw [List.length_append] at hj
  have h1 : ([p] : List (List Nat)).length = 1 := rfl
  (try dsimp only)
  by_cases q : j = gs.length
  · rw [if_pos q, q, List.take_append_of_le_length (Nat.le_refl _), List.take_length]
  · rw [if_neg q, List.take_append_of_le_length (by omega)]
    exact h j (by omega)
theorem len_fl : ∀ {gs : List (List Nat)}, (∀ p ∈ gs, p ≠ []) → gs.length ≤ gs.flatten.length
  | [], _ => Nat.le_refl _
  | p :: gs, h => by
    have := len_fl (gs := gs) (fun q hq => h q (List.mem_cons_of_mem _ hq))
    have := List.length_pos_iff.mpr (h p List.mem_cons_self)
    rw [List.flatten_cons, List.length_append, List.length_cons]
    omega
theorem pcs_all {W : gW} {l : List Nat} {v : Nat} : ∀ p ∈ pcs W l v, p ≠ [] := fun _ h => (pcs_mem.mp h).choose_spec.2.2
theorem fl_s (gs : List (List Nat)) (p : List Nat) : (gs ++ [p]).flatten = gs.flatten ++ p := by simp
theorem c_splitG {W : gW} (hW : wOK W) {σ : fhM} {A B C D a : Nat} {l : List Nat} {done : List (List Nat)} (hAB : swp A B 77 79) (hCD : swp C D 81 83) (r1 : σ.2.2 76 1 = A) (r2 : σ.2.2 76 2 = B) (r4 : σ.2.2 76 4 = D) (hl : lsF W A a l σ) (h9 : σ.1 39 9 = nI W.g) (hk : ∀ r ∈ l, σ.1 86 r = nI (kb W l r)) (hf : lsT (σ.1 (B + 1)) done.flatten) (ha : done.flatten.length = a) (hd : dT (σ.1 (D + 1)) done) (h6 : σ.1 76 6 = nI done.length) (hne : ∀ p ∈ done, p ≠ []) :
    wq (f_X1_splitGroup (nI a) (nI (a + l.length)) σ) (fun s => ∃ f d, s = fhU (fhI (fhU σ (D + 1) d) 76 6 (nI (done ++ pcs W l (2 ^ W.g)).length)) (B + 1) f ∧ lsT f (done ++ pcs W l (2 ^ W.g)).flatten ∧ dT d (done ++ pcs W l (2 ^ W.g))) := by
  obtain ⟨oA, oB, iA, iB⟩ := swp_o hAB
  obtain ⟨oC, oD, iC, iD⟩ := swp_s hCD
  obtain ⟨l1, l2, l3⟩ := hl
  have hg5 := hW.1
  have hN10 := hW.2.1
  have hP : 2 ^ W.g ≤ 32 := by
    have := Nat.pow_le_pow_right (show 0 < 2 by decide) hg5
    exact this
  have nAB : A + 1 ≠ B + 1 := by omega
  have nAD : A + 1 ≠ D + 1 := by omega
  have nBD : D + 1 ≠ B + 1 := by omega
  have n76B : 76 ≠ B + 1 := by omega
  have n76D : 76 ≠ D + 1 := by omega
  have n39B : 39 ≠ B + 1 := by omega
  have n39D : 39 ≠ D + 1 := by omega
  have n86B : 86 ≠ B + 1 := by omega
  have n86D : 86 ≠ D + 1 := by omega
  have hgl : ∀ k, k < l.length → l.getD k 0 < W.N := fun k hk => l1 _ (getD_mem hk)
  have lenO : ∀ v, (done ++ pcs W l v).flatten.length = a + (l.filter (fun r => decide (kb W l r < v))).length := fun v => by
    rw [List.flatten_append, List.length_append, ha, pcs_len]
  have lenL : ∀ v, (l.filter (fun r => decide (kb W l r < v))).length ≤ l.length := fun v => List.length_filter_le _ l
  have allO : ∀ v, ∀ p ∈ done ++ pcs W l v, p ≠ [] := fun v p hp => (List.mem_append.mp hp).elim (hne p) (pcs_all p)
  have lnO : ∀ v, (done ++ pcs W l v).length ≤ (done ++ pcs W l v).flatten.length := fun v => len_fl (allO v)
  have stS : ∀ {d f : Nat → Int32} {n : Nat}, (fhU (fhI (fhU σ (D + 1) d) 76 6 (nI n)) (B + 1) f).2.2 76 1 = A ∧ (fhU (fhI (fhU σ (D + 1) d) 76 6 (nI n)) (B + 1) f).2.2 76 2 = B ∧ (fhU (fhI (fhU σ (D + 1) d) 76 6 (nI n)) (B + 1) f).2.2 76 4 = D := fun {d f n} => ⟨r1, r2, r4⟩
  unfold f_X1_splitGroup
  refine wq_for (R := fun v x => ∃ f d, x = (nI (done ++ pcs W l v).flatten.length, nI v, fhU (fhI (fhU σ (D + 1) d) 76 6 (nI (done ++ pcs W l v).length)) (B + 1) f) ∧ lsT f (done ++ pcs W l v).flatten ∧ dT d (done ++ pcs W l v)) 0 (2 ^ W.g) (Nat.zero_le _) ?_ ?_ ⟨σ.1 (B + 1), σ.1 (D + 1), ?_, ?_, ?_⟩
  · rintro v x - hv ⟨f, d, rfl, f1, d1⟩
    (try dsimp only)
    unfold f_X1_splitGroup_5
    have hL := lenO v
    have hL2 := lenL v
    have hn := lnO v
    rw [fhU_o n39B, fhI_o (show 39 ≠ 76 by decide), fhU_o n39D, h9, ph_shl1 (by omega), if_neg (nI_ge hv (by omega))]
    by_cases q : a + l.length ≤ (done ++ pcs W l v).flatten.length
    · rw [if_pos (nI_le q (by omega)), wq_some, fhK_r]
      have e : pcs W l (2 ^ W.g) = pcs W l v := by
        have := pcs_done (W := W) (l := l) (v := v) (by rw [pcs_len]; omega) (2 ^ W.g - v)
        rw [show v + (2 ^ W.g - v) = 2 ^ W.g from by omega] at this
        exact this
      rw [e]
      exact ⟨f, d, rfl, f1, d1⟩
    · rw [if_neg (nI_ge (by omega) (by omega))]
      have hs := flt_s (kb W l) l v
      have hL3 := lenL (v + 1)
      generalize hO : done ++ pcs W l v = O at f1 d1 hL hn q
      have ptl : ∀ k, ((l.take k).filter (fun r => decide (kb W l r = v))).length ≤ (l.filter (fun r => decide (kb W l r = v))).length := fun k => List.Sublist.length_le (List.Sublist.filter _ (List.take_sublist k l))
      refine wq_for (R := fun k x => ∃ f, x = (nI (O.flatten ++ (l.take k).filter (fun r => decide (kb W l r = v))).length, nI (a + k), fhU (fhI (fhU σ (D + 1) d) 76 6 (nI O.length)) (B + 1) f) ∧ lsT f (O.flatten ++ (l.take k).filter (fun r => decide (kb W l r = v)))) 0 l.length (Nat.zero_le _) ?_ ?_ ⟨f, ?_, ?_⟩
      · rintro k x - hkl ⟨g, rfl, g1⟩
        (try dsimp only)
        unfold f_X1_splitGroup_30 f_X1_splitGroup_74
        have hx := hgl k hkl
        have hxm := getD_mem hkl
        obtain ⟨t1, t2, t3⟩ := @stS d g O.length
        rw [if_neg (nI_ge (by omega) (by omega)), t1, if_pos iA, fcG_U nAB, fcG_I (by omega), fcG_U nAD, l3 k hkl, cg85 (by omega), fhU_o n86B, fhI_o (show 86 ≠ 76 by decide), fhU_o n86D, hk _ hxm]
        have e2 : (l.take (k + 1)).filter (fun r => decide (kb W l r = v)) = (l.take k).filter (fun r => decide (kb W l r = v)) ++ (if kb W l (l.getD k 0) = v then [l.getD k 0] else []) := by
          rw [take_s hkl, List.filter_append]
          congr 1
          by_cases c : kb W l (l.getD k 0) = v
          · rw [if_pos c, List.filter_cons_of_pos (by rw [c]; exact decide_eq_true rfl)]
            rfl
          · rw [if_neg c, List.filter_cons_of_neg (by rw [decide_eq_true_iff]; exact c)]
            rfl
        have hp1 := ptl (k + 1)
        have hkb := kb_lt hW l (l.getD k 0)
        by_cases c : kb W l (l.getD k 0) = v
        · rw [if_pos (show nI (kb W l (l.getD k 0)) = nI v from by rw [c]), t2, if_pos iB]
          rw [e2, if_pos c] at hp1
          rw [List.length_append] at hp1
          have h1 : ([l.getD k 0] : List Nat).length = 1 := rfl
          rw [show fcP (fhU (fhI (fhU σ (D + 1) d) 76 6 (nI O.length)) (B + 1) g) B (nI (O.flatten ++ (l.take k).filter (fun r => decide (kb W l r = v))).length) (nI (l.getD k 0)) = fhI (fhU (fhI (fhU σ (D + 1) d) 76 6 (nI O.length)) (B + 1) g) (B + 1) (O.flatten ++ (l.take k).filter (fun r => decide (kb W l r = v))).length (nI (l.getD k 0)) from fcP_at oB (by rw [List.length_append]; omega) (by rw [List.length_append]; omega), fhU_I, nI_1, nI_1, wq_some, fhK_l]
          refine ⟨fun j => if j = (O.flatten ++ (l.take k).filter (fun r => decide (kb W l r = v))).length then nI (l.getD k 0) else g j, ?_, ?_⟩
          · rw [e2, if_pos c, ← List.append_assoc, List.length_append (bs := [l.getD k 0])]
            rfl
          · rw [e2, if_pos c, ← List.append_assoc]
            exact lsT_a g1 _
        · rw [if_neg (fun z => c ((nI_e (by omega) (by omega)).mp z)), nI_1, wq_some, fhK_l]
          rw [e2, if_neg c, List.append_nil]
          exact ⟨g, rfl, g1⟩
      · rintro x ⟨g, rfl, g1⟩
        (try dsimp only)
        unfold f_X1_splitGroup_30 f_X1_splitGroup_109
        obtain ⟨t1, t2, t3⟩ := @stS d g O.length
        rw [if_pos (nI_le (Nat.le_refl _) (by omega))]
        rw [List.take_length] at g1 ⊢
        have hOs : done ++ pcs W l (v + 1) = if l.filter (fun r => decide (kb W l r = v)) = [] then O else O ++ [l.filter (fun r => decide (kb W l r = v))] := by
          rw [← hO]
          show done ++ (if _ then _ else _) = _
          split
          · rfl
          · rw [List.append_assoc]
        generalize hp : l.filter (fun r => decide (kb W l r = v)) = p at g1 hOs hs
        by_cases c : p = []
        · rw [c, List.append_nil, if_pos (nI_le (Nat.le_refl _) (by omega)), nI_1, wq_map, wq_some, fhK_r, fhK_l, hOs, if_pos c]
          rw [c, List.append_nil] at g1
          exact ⟨g, d, rfl, g1, d1⟩
        · have hpl := List.length_pos_iff.mpr c
          rw [List.length_append, if_neg (nI_ge (by omega) (by omega)), t3, if_pos iD]
          have ex : fhI (fcP (fhU (fhI (fhU σ (D + 1) d) 76 6 (nI O.length)) (B + 1) g) D ((fhU (fhI (fhU σ (D + 1) d) 76 6 (nI O.length)) (B + 1) g).1 76 6) (nI O.flatten.length)) 76 6 ((fcP (fhU (fhI (fhU σ (D + 1) d) 76 6 (nI O.length)) (B + 1) g) D ((fhU (fhI (fhU σ (D + 1) d) 76 6 (nI O.length)) (B + 1) g).1 76 6) (nI O.flatten.length)).1 76 6 + (1 : Int32)) = fhU (fhI (fhU σ (D + 1) (fun j => if j = O.length then nI O.flatten.length else d j)) 76 6 (nI (O.length + 1))) (B + 1) g := by
            have e6 : (fhU (fhI (fhU σ (D + 1) d) 76 6 (nI O.length)) (B + 1) g).1 76 6 = nI O.length := by rw [fhU_o n76B, fhI_e]
            rw [e6, fcP_at oD (by omega) (by omega), fhU_IO nBD, fhU_o n76B, fhI_o n76D, fhI_e, fhU_IO n76B, nI_1]
            rw [fhI_IO (t := 76) (a := D + 1) (Or.inl (Ne.symm n76D)), fhI_I, fhU_I]
          rw [ex, nI_1, wq_map, wq_some, fhK_r, fhK_l, hOs, if_neg c]
          refine ⟨g, fun j => if j = O.length then nI O.flatten.length else d j, ?_, by rw [fl_s]; exact g1, dT_a d1 p⟩
          rw [fl_s, List.length_append, List.length_append]
          rfl
      · rw [List.take_zero, List.filter_nil, List.append_nil]
        rfl
      · rw [List.take_zero, List.filter_nil, List.append_nil]
        exact f1
  · rintro x ⟨f, d, rfl, f1, d1⟩
    (try dsimp only)
    unfold f_X1_splitGroup_5
    rw [fhU_o n39B, fhI_o (show 39 ≠ 76 by decide), fhU_o n39D, h9, ph_shl1 (by omega), if_pos (nI_le (Nat.le_refl _) (by omega)), wq_some, fhK_r]
    exact ⟨f, d, rfl, f1, d1⟩
  · rw [show pcs W l 0 = [] from rfl, List.append_nil, ha, fhU_id (t := D + 1) (fun _ => rfl), fhI_id h6, fhU_id (fun _ => rfl)]
    rfl
  · rw [show pcs W l 0 = [] from rfl, List.append_nil]
    exact hf
  · rw [show pcs W l 0 = [] from rfl, List.append_nil]
    exact hd
