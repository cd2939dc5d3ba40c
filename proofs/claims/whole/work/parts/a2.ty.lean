/-! THE GRAMMAR'S STEPS RUN WELL -/
theorem sq_r {a : gR} {f : Nat → gR} {j : Nat} {c : gC} (h : sq a f = some (.inr (j, c))) : ∃ k1 c1 c2, a = some (.inr (k1, c1)) ∧ f k1 = some (.inr (j, c2)) ∧ c = c1 ++ c2 := by
  rcases sq_some h with ⟨e, _, h2⟩ | ⟨k1, c1, h1, h2⟩
  · cases h2
  · rcases h2 with ⟨e, _, h3⟩ | ⟨k2, c2, h3, h4⟩
    · cases h3
    · cases h4; exact ⟨k1, c1, c2, h1, h3, rfl⟩
theorem sgn_r {T : tT} {k ch j : Nat} {cs c : gC} (h : sgn T k ch cs = some (.inr (j, c))) : c = cs := by
  rcases sgn_some h with ⟨_, e⟩ | ⟨_, e⟩
  · cases e; rfl
  · cases e
theorem gok_r {k j : Nat} {cs c : gC} (h : gok k cs = some (.inr (j, c))) : c = cs := by cases h; rfl
section
variable {lf : Nat → Int} {lk : Nat → Int → Int} {q : Bool} {g : Nat} {T : tT} {nl : List (List Nat)}
theorem lfx_ok (hg : nl.length ≤ g) {k i : Nat} (h : lfx q nl T k = some i) : okc q g (1, i) = true := by
  unfold lfx at h
  by_cases e : kd T k = 1
  · rw [if_pos e] at h
    cases q with
    | true =>
      dsimp only [cond_true] at h
      split at h
      · cases h
        show (decide (10 ≤ ow (lt T k) - 3) && decide (ow (lt T k) - 3 ≤ 14)) = true
        rw [decide_eq_true (by omega), decide_eq_true (by omega)]; rfl
      · cases h
    | false =>
      dsimp only [cond_false] at h
      show (decide (i < g) || (decide (5 ≤ i) && decide (i ≤ 8))) = true
      split at h
      · cases h
        rw [decide_eq_true (show 5 ≤ ow (lt T k) - 3 by omega), decide_eq_true (show ow (lt T k) - 3 ≤ 8 by omega)]
        simp
      · have := (nix_in h).1
        rw [decide_eq_true (by omega)]; rfl
  · rw [if_neg e] at h; cases h
theorem lkx_ok {k b : Nat} (h : lkx q T k = some b) : okc q g (2, b) = true := by
  unfold lkx at h
  by_cases e : kd T k = 1
  · rw [if_pos e] at h
    cases q with
    | true =>
      dsimp only [cond_true] at h
      split at h
      · cases h; rfl
      · split at h
        · cases h; rfl
        · cases h
    | false =>
      dsimp only [cond_false] at h
      split at h
      · cases h; rfl
      · cases h
  · rw [if_neg e] at h; cases h
theorem rd_ty (hg : nl.length ≤ g) : ∀ (n w o k j : Nat) (c : gC), rd T q nl n w o k = some (.inr (j, c)) → o ≤ 6 → ∀ st : List Int, st.length + ned w o ≤ 60 → gd q g lf lk w c st := by
  intro n
  induction n with
  | zero => intro w o k j c h; cases h
  | succ n ih =>
    intro w o k j c h ho st hs
    match w, h, hs with
    | 0, h, hs =>
      obtain ⟨k1, c1, c2, h1, h2, rfl⟩ := sq_r h
      simp only [ned] at hs
      exact gdT_N (ih 1 _ _ _ _ h1 ho st (by simp only [ned]; omega)) (ih 6 _ _ _ _ h2 ho st (by simp only [ned]; omega))
    | 1, h, hs =>
      obtain ⟨k1, c1, c2, h1, h2, rfl⟩ := sq_r h
      simp only [ned] at hs
      exact gdT_N (ih 2 _ _ _ _ h1 ho st (by simp only [ned]; omega)) (ih 7 _ _ _ _ h2 ho st (by simp only [ned]; omega))
    | 2, h, hs =>
      simp only [ned] at hs
      have h : (gif _ _ _ : gR) = some (.inr (j, c)) := h
      show gdT q g lf lk c st
      rcases gif_some h with ⟨_, h⟩ | ⟨_, h⟩
      · split at h
        · cases h
        · obtain ⟨k1, c1, c2, h1, h2, rfl⟩ := sq_r h
          rw [sgn_r h2, List.append_nil]
          exact ih 0 _ _ _ _ h1 (by omega) st (by simp only [ned]; omega)
      rcases gif_some h with ⟨_, h⟩ | ⟨_, h⟩
      · split at h
        · cases h
        · obtain ⟨k1, c1, c2, h1, h2, rfl⟩ := sq_r h
          rw [gok_r h2]
          have h3 : gdT q g lf lk c1 st := ih 2 _ _ _ _ h1 (by omega) st (by simp only [ned]; omega)
          obtain ⟨v, hv, h3⟩ := h3
          refine ⟨1 - v, ?_, run_app h3 (run_1 (okc4 (by decide)) (if_pos hv) (by rw [List.length_cons]; omega))⟩
          unfold bt at hv ⊢
          omega
      rcases gif_some h with ⟨_, h⟩ | ⟨_, h⟩
      · rw [gok_r h]
        exact ⟨1, Or.inr rfl, run_1 rfl rfl (by rw [List.length_cons]; omega)⟩
      · obtain ⟨k1, c1, c2, h1, h2, rfl⟩ := sq_r h
        have a1 : gdS q g lf lk c1 st := ih 3 _ _ _ _ h1 ho st (by simp only [ned]; omega)
        have two : ∀ op, 10 ≤ op ∧ op ≤ 12 → sq (rd T q nl n 3 o (k1 + 1)) (fun k => gok k [(op, 0)]) = some (.inr (j, c2)) → gdT q g lf lk (c1 ++ c2) st := by
          intro op hop h
          obtain ⟨k2, c3, c4, h3, h4, rfl⟩ := sq_r h
          rw [gok_r h4]
          obtain ⟨x, v, e⟩ := gd_two (op := op) (by omega) (by omega) a1 (fun x => (ih 3 _ _ _ _ h3 ho (x :: st) (by rw [List.length_cons]; simp only [ned]; omega)))
          refine ⟨_, ?_, e⟩
          have : op = 10 ∨ op = 11 ∨ op = 12 := by omega
          rcases this with rfl | rfl | rfl <;> exact one_bt _
        rcases gif_some h2 with ⟨_, h2⟩ | ⟨_, h2⟩
        · exact two 10 (by decide) h2
        rcases gif_some h2 with ⟨_, h2⟩ | ⟨_, h2⟩
        · exact two 11 (by decide) h2
        rcases gif_some h2 with ⟨_, h2⟩ | ⟨_, h2⟩
        · exact two 12 (by decide) h2
        · cases h2
    | 3, h, hs =>
      obtain ⟨k1, c1, c2, h1, h2, rfl⟩ := sq_r h
      simp only [ned] at hs
      exact gdS_M (ih 4 _ _ _ _ h1 ho st (by simp only [ned]; omega)) (ih 8 _ _ _ _ h2 ho st (by simp only [ned]; omega))
    | 4, h, hs =>
      obtain ⟨k1, c1, c2, h1, h2, rfl⟩ := sq_r h
      simp only [ned] at hs
      exact gdS_M (ih 5 _ _ _ _ h1 ho st (by simp only [ned]; omega)) (ih 9 _ _ _ _ h2 ho st (by simp only [ned]; omega))
    | 5, h, hs =>
      simp only [ned] at hs
      have h : (gif _ _ _ : gR) = some (.inr (j, c)) := h
      show gdS q g lf lk c st
      rcases gif_some h with ⟨hk, h⟩ | ⟨_, h⟩
      · split at h
        · cases h
        · rename_i h4
          rw [gok_r h]
          have hn := nv_lt hk (by omega)
          exact ⟨_, run_1 (decide_eq_true hn) rfl (by rw [List.length_cons]; omega)⟩
      rcases gif_some h with ⟨_, h⟩ | ⟨_, h⟩
      · split at h
        · cases h
        · obtain ⟨k1, c1, c2, h1, h2, rfl⟩ := sq_r h
          rw [sgn_r h2, List.append_nil]
          exact ih 3 _ _ _ _ h1 (by omega) st (by simp only [ned]; omega)
      rcases gif_some h with ⟨_, h⟩ | ⟨_, h⟩
      · rcases gif_some h with ⟨_, h⟩ | ⟨_, h⟩
        · split at h
          · cases h
          · obtain ⟨k1, c1, c2, h1, h2, rfl⟩ := sq_r h
            obtain ⟨k3, c3, c4, h3, h4, rfl⟩ := sq_r h2
            obtain ⟨k5, c5, c6, h5, h6, rfl⟩ := sq_r h4
            rw [sgn_r h3, sgn_r h6, List.nil_append]
            have fin : ∀ op, op = 8 ∨ op = 9 → gdS q g lf lk (c1 ++ (c5 ++ [(op, 0)])) st := by
              intro op hop
              obtain ⟨x, v, e⟩ := gd_two (op := op) (by omega) (by omega) (ih 3 _ _ _ _ h1 (by omega) st (by simp only [ned]; omega)) (fun x => (ih 3 _ _ _ _ h5 (by omega) (x :: st) (by rw [List.length_cons]; simp only [ned]; omega)))
              exact ⟨_, e⟩
            by_cases z : isw T k 24
            · rw [gif_t z]; exact fin 8 (Or.inl rfl)
            · rw [gif_f z]; exact fin 9 (Or.inr rfl)
        · cases h
      cases hl : lkx q T k with
      | some b =>
        rw [hl] at h
        dsimp only at h
        split at h
        · cases h
        · obtain ⟨k1, c1, c2, h1, h2, rfl⟩ := sq_r h
          rw [gok_r h2]
          have h3 : gdS q g lf lk c1 st := ih 5 _ _ _ _ h1 (by omega) st (by simp only [ned]; omega)
          obtain ⟨v, h3⟩ := h3
          exact ⟨lk b v, run_app h3 (run_1 (lkx_ok hl) rfl (by rw [List.length_cons]; omega))⟩
      | none =>
        rw [hl] at h
        dsimp only at h
        cases hf : lfx q nl T k with
        | some i =>
          rw [hf] at h
          rw [gok_r h]
          exact ⟨lf i, run_1 (lfx_ok hg hf) rfl (by rw [List.length_cons]; omega)⟩
        | none => rw [hf] at h; cases h
    | 6, h, hs =>
      simp only [ned] at hs
      have h : (gif _ _ _ : gR) = some (.inr (j, c)) := h
      show gdN q g lf lk c st
      rcases gif_some h with ⟨_, h⟩ | ⟨_, h⟩
      · obtain ⟨k1, c1, c2, h1, h2, rfl⟩ := sq_r h
        obtain ⟨k3, c3, c4, h3, h4, rfl⟩ := sq_r h2
        rw [gok_r h3]
        cases h3
        exact gdN_op (Or.inr rfl) (by omega) (fun x => ih 1 _ _ _ _ h1 ho (x :: st) (by rw [List.length_cons]; simp only [ned]; omega)) (ih 6 _ _ _ _ h4 ho st (by simp only [ned]; omega))
      · rw [gok_r h]; exact gdN_0 st
    | 7, h, hs =>
      simp only [ned] at hs
      have h : (gif _ _ _ : gR) = some (.inr (j, c)) := h
      show gdN q g lf lk c st
      rcases gif_some h with ⟨_, h⟩ | ⟨_, h⟩
      · obtain ⟨k1, c1, c2, h1, h2, rfl⟩ := sq_r h
        obtain ⟨k3, c3, c4, h3, h4, rfl⟩ := sq_r h2
        rw [gok_r h3]
        cases h3
        exact gdN_op (Or.inl rfl) (by omega) (fun x => ih 2 _ _ _ _ h1 ho (x :: st) (by rw [List.length_cons]; simp only [ned]; omega)) (ih 7 _ _ _ _ h4 ho st (by simp only [ned]; omega))
      · rw [gok_r h]; exact gdN_0 st
    | 8, h, hs =>
      simp only [ned] at hs
      have h : (gif _ _ _ : gR) = some (.inr (j, c)) := h
      show gdM q g lf lk c st
      have op : ∀ op, op = 4 ∨ op = 5 → sq (rd T q nl n 4 o (k + 1)) (fun k => sq (gok k [(op, 0)]) (fun k => rd T q nl n 8 o k)) = some (.inr (j, c)) → gdM q g lf lk c st := by
        intro op hop h
        obtain ⟨k1, c1, c2, h1, h2, rfl⟩ := sq_r h
        obtain ⟨k3, c3, c4, h3, h4, rfl⟩ := sq_r h2
        rw [gok_r h3]
        cases h3
        exact gdM_op (by omega) (by omega) (fun x => ih 4 _ _ _ _ h1 ho (x :: st) (by rw [List.length_cons]; simp only [ned]; omega)) (ih 8 _ _ _ _ h4 ho st (by simp only [ned]; omega))
      rcases gif_some h with ⟨_, h⟩ | ⟨_, h⟩
      · exact op 4 (Or.inl rfl) h
      rcases gif_some h with ⟨_, h⟩ | ⟨_, h⟩
      · exact op 5 (Or.inr rfl) h
      · rw [gok_r h]; exact gdM_0 st
    | w + 9, h, hs =>
      have hw : ned (w + 9) o = 2 + 3 * (6 - o) := rfl
      rw [hw] at hs
      have h : (gif _ _ _ : gR) = some (.inr (j, c)) := h
      show gdM q g lf lk c st
      have op : ∀ op, op = 6 ∨ op = 7 → sq (rd T q nl n 5 o (k + 1)) (fun k => sq (gok k [(op, 0)]) (fun k => rd T q nl n 9 o k)) = some (.inr (j, c)) → gdM q g lf lk c st := by
        intro op hop h
        obtain ⟨k1, c1, c2, h1, h2, rfl⟩ := sq_r h
        obtain ⟨k3, c3, c4, h3, h4, rfl⟩ := sq_r h2
        rw [gok_r h3]
        cases h3
        exact gdM_op (by omega) (by omega) (fun x => ih 5 _ _ _ _ h1 ho (x :: st) (by rw [List.length_cons]; simp only [ned]; omega)) (ih 9 _ _ _ _ h4 ho st (by simp only [ned]; omega))
      rcases gif_some h with ⟨_, h⟩ | ⟨_, h⟩
      · exact op 6 (Or.inl rfl) h
      rcases gif_some h with ⟨_, h⟩ | ⟨_, h⟩
      · exact op 7 (Or.inr rfl) h
      · rw [gok_r h]; exact gdM_0 st
end
