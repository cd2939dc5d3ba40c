/-! ANEW in the class: noting who knows, splitting one group -/
abbrev swp (A B x y : Nat) : Prop := (A = x ∧ B = y) ∨ (A = y ∧ B = x)
theorem swp_o {A B : Nat} (h : swp A B 77 79) : fcL A = 1024 ∧ fcL B = 1024 ∧ fhiC A = true ∧ fhiC B = true := by
  rcases h with ⟨rfl, rfl⟩ | ⟨rfl, rfl⟩ <;> exact ⟨rfl, rfl, rfl, rfl⟩
theorem swp_s {A B : Nat} (h : swp A B 81 83) : fcL A = 1025 ∧ fcL B = 1025 ∧ fhiC A = true ∧ fhiC B = true := by
  rcases h with ⟨rfl, rfl⟩ | ⟨rfl, rfl⟩ <;> exact ⟨rfl, rfl, rfl, rfl⟩
theorem e5 (x i : Nat) : nI x * (5 : Int32) + nI i = nI (x * 5 + i) := by
  rw [show (5 : Int32) = nI 5 from rfl, pk_mul, nI_add]
def lsT (f : Nat → Int32) (o : List Nat) : Prop := ∀ k, k < o.length → f k = nI (o.getD k 0)
theorem lsT_a {f : Nat → Int32} {o : List Nat} (h : lsT f o) (x : Nat) : lsT (fun j => if j = o.length then nI x else f j) (o ++ [x]) := by
  intro k hk
  rw [List.length_append] at hk
  have h1 : ([x] : List Nat).length = 1 := rfl
  (try dsimp only)
  by_cases q : k = o.length
  · rw [if_pos q, q, getD_app2]
  · rw [if_neg q, getD_app1 (by omega)]
    exact h k (by omega)
theorem c_noteK {W : gW} (hW : wOK W) {σ : fhM} {A B a n : Nat} {l : List Nat} (hAB : swp A B 77 79) (hr1 : σ.2.2 76 1 = A) (hl : lsF W A a l σ) (h9 : σ.1 39 9 = nI W.g) (hk : ∀ r ∈ l, σ.1 86 r = nI (kb W l r)) {F : Nat → Nat → Nat} (hF : ∀ r i, F r i ≤ 99) (h88 : ∀ r i, r ∈ l → i < W.g → σ.1 88 (r * 5 + i) = nI (F r i)) (hn : n ≤ 99) :
    wq (f_X1_noteKnowers (nI a) (nI (a + l.length)) (nI n) σ) (fun s => ∃ u, s = fhU σ 88 u ∧ (∀ r i, r ∈ l → i < W.g → u (r * 5 + i) = nI (if (kb W l r).testBit i = true then min (F r i) n else F r i)) ∧ ∀ r i, r ∉ l → i < 5 → u (r * 5 + i) = σ.1 88 (r * 5 + i)) := by
  obtain ⟨oA, _, iA, _⟩ := swp_o hAB
  obtain ⟨l1, l2, l3⟩ := hl
  have hg5 := hW.1
  have hN10 := hW.2.1
  have nA : A + 1 ≠ 88 := by omega
  have hgl : ∀ k, k < l.length → l.getD k 0 < W.N := fun k hk => l1 _ (getD_mem hk)
  unfold f_X1_noteKnowers
  refine wq_for (R := fun k x => ∃ u, x = (nI (a + k), fhU σ 88 u) ∧ (∀ r i, r ∈ l → i < W.g → u (r * 5 + i) = nI (if r ∈ l.take k ∧ (kb W l r).testBit i = true then min (F r i) n else F r i)) ∧ ∀ r i, r ∉ l → i < 5 → u (r * 5 + i) = σ.1 88 (r * 5 + i)) 0 l.length (Nat.zero_le _) ?_ ?_ ⟨σ.1 88, by rw [fhU_id (fun _ => rfl)]; rfl, fun r i hr hi => by rw [if_neg (by rw [List.take_zero]; exact fun z => (by cases z.1))]; exact h88 r i hr hi, fun _ _ _ _ => rfl⟩
  · rintro k x - hkl ⟨u, rfl, u1, u2⟩
    (try dsimp only)
    unfold f_X1_noteKnowers_3
    have hx := hgl k hkl
    have hxm := getD_mem hkl
    rw [if_neg (nI_ge (by omega) (by omega)), show (fhU σ 88 u).2.2 76 1 = A from hr1, if_pos iA, fcG_U nA, l3 k hkl]
    generalize hxe : l.getD k 0 = x at hx hxm
    refine wq_for (R := fun i y => ∃ u, y = (nI i, fhU σ 88 u) ∧ (∀ r j, r ∈ l → j < W.g → u (r * 5 + j) = nI (if (r ∈ l.take k ∨ (r = x ∧ j < i)) ∧ (kb W l r).testBit j = true then min (F r j) n else F r j)) ∧ ∀ r i, r ∉ l → i < 5 → u (r * 5 + i) = σ.1 88 (r * 5 + i)) 0 W.g (Nat.zero_le _) ?_ ?_ ⟨u, rfl, fun r j hr hj => ?_, u2⟩
    · rintro i y - hi ⟨v, rfl, v1, v2⟩
      (try dsimp only)
      unfold f_X1_noteKnowers_23 f_X1_noteKnowers_83
      have hkb := kb_lt hW l x
      rw [fhU_o (show 39 ≠ 88 by decide), h9, if_neg (nI_ge hi (by omega)), cg85 (by omega), fhU_o (show 86 ≠ 88 by decide), hk x hxm]
      by_cases q : (kb W l x).testBit i = true
      · rw [if_neg (by rw [ph_bit0P (by omega) (by omega), q]; exact fun z => (by cases z)), e5, cg87 (by omega), cp87 (by omega), fhU_e, v1 x i hxm hi, nI_min (by have := hF x i; split <;> omega) (by omega), fhU_I, nI_1, wq_some, fhK_l]
        refine ⟨_, rfl, fun r j hr hj => ?_, fun r j hr hj => ?_⟩
        · (try dsimp only)
          by_cases e : r * 5 + j = x * 5 + i
          · have e1 : r = x := by omega
            have e2 : j = i := by omega
            subst e1
            subst e2
            rw [if_pos e]
            congr 1
            have e3 : (if (r ∈ l.take k ∨ (r = r ∧ j < j + 1)) ∧ (kb W l r).testBit j = true then min (F r j) n else F r j) = min (F r j) n := if_pos ⟨Or.inr ⟨rfl, Nat.lt_succ_self j⟩, q⟩
            rw [e3]
            split <;> omega
          · rw [if_neg e, v1 r j hr hj]
            congr 1
            by_cases c : (r ∈ l.take k ∨ (r = x ∧ j < i)) ∧ (kb W l r).testBit j = true
            · rw [if_pos c, if_pos ⟨c.1.imp id (fun z => ⟨z.1, by omega⟩), c.2⟩]
            · rw [if_neg c, if_neg (fun z => c ⟨z.1.imp id (fun w => ⟨w.1, by have := w.1; subst this; omega⟩), z.2⟩)]
        · (try dsimp only)
          rw [if_neg (fun z => hr (by have : r = x := by omega
                                      rw [this]; exact hxm))]
          exact v2 r j hr hj
      · rw [if_pos (by rw [ph_bit0P (by omega) (by omega)]; exact Bool.eq_false_iff.mpr q), nI_1, wq_some, fhK_l]
        refine ⟨v, rfl, fun r j hr hj => ?_, v2⟩
        rw [v1 r j hr hj]
        congr 1
        by_cases c : (r ∈ l.take k ∨ (r = x ∧ j < i)) ∧ (kb W l r).testBit j = true
        · rw [if_pos c, if_pos ⟨c.1.imp id (fun z => ⟨z.1, by omega⟩), c.2⟩]
        · rw [if_neg c]
          refine (if_neg (fun z => c ⟨z.1.imp id (fun w => ⟨w.1, ?_⟩), z.2⟩)).symm
          rcases Nat.lt_or_ge j i with c2 | c2
          · exact c2
          · exfalso
            have : j = i := by omega
            have z2 := z.2
            rw [w.1, this] at z2
            exact q z2
    · rintro y ⟨v, rfl, v1, v2⟩
      (try dsimp only)
      unfold f_X1_noteKnowers_23
      rw [fhU_o (show 39 ≠ 88 by decide), h9, if_pos (nI_le (Nat.le_refl _) (by omega)), nI_1, wq_some, fhK_r, fhK_l]
      refine ⟨v, rfl, fun r j hr hj => ?_, v2⟩
      rw [v1 r j hr hj]
      congr 1
      have mem : r ∈ l.take (k + 1) ↔ r ∈ l.take k ∨ r = x := by rw [take_s hkl, hxe, List.mem_append, List.mem_singleton]
      by_cases c : (r ∈ l.take k ∨ (r = x ∧ j < W.g)) ∧ (kb W l r).testBit j = true
      · rw [if_pos c, if_pos ⟨mem.mpr (c.1.imp id (fun z => z.1)), c.2⟩]
      · rw [if_neg c, if_neg (fun z => c ⟨(mem.mp z.1).imp id (fun w => ⟨w, hj⟩), z.2⟩)]
    · rw [u1 r j hr hj]
      congr 1
      by_cases c : r ∈ l.take k ∧ (kb W l r).testBit j = true
      · rw [if_pos c, if_pos ⟨Or.inl c.1, c.2⟩]
      · rw [if_neg c, if_neg (fun z => c ⟨z.1.elim id (fun w => absurd w.2 (Nat.not_lt_zero _)), z.2⟩)]
  · rintro x ⟨u, rfl, u1, u2⟩
    (try dsimp only)
    unfold f_X1_noteKnowers_3
    rw [if_pos (nI_le (Nat.le_refl _) (by omega)), wq_some, fhK_r]
    refine ⟨u, rfl, fun r i hr hi => ?_, u2⟩
    rw [u1 r i hr hi, List.take_length]
    congr 1
    by_cases c : (kb W l r).testBit i = true
    · rw [if_pos ⟨hr, c⟩, if_pos c]
    · rw [if_neg (fun z => c z.2), if_neg c]
