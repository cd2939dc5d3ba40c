/-! THE GRAMMAR ANSWERS ALWAYS, with depth enough -/
theorem sq_ex {a : gR} {f : Nat → gR} (ha : ∃ r, a = some r) (hf : ∀ j c, a = some (.inr (j, c)) → ∃ r, f j = some r) : ∃ r, sq a f = some r := by
  obtain ⟨r, hr⟩ := ha
  cases r with
  | inl e => exact ⟨.inl e, by rw [hr]; rfl⟩
  | inr x =>
    obtain ⟨y, hy⟩ := hf x.1 x.2 hr
    rw [hr]
    unfold sq
    dsimp only
    rw [hy]
    cases y with
    | inl e => exact ⟨_, rfl⟩
    | inr z => exact ⟨_, rfl⟩
theorem gif_ex {c : Prop} {a b : gR} (ha : c → ∃ r, a = some r) (hb : ¬ c → ∃ r, b = some r) : ∃ r, gif c a b = some r := by
  by_cases h : c
  · rw [gif_t h]; exact ha h
  · rw [gif_f h]; exact hb h
theorem gok_ex {k : Nat} {c : gC} : ∃ r, gok k c = some r := ⟨_, rfl⟩
theorem gbad_ex {e p : Nat} : ∃ r, gbad e p = some r := ⟨_, rfl⟩
theorem sgn_ex {T : tT} {k c : Nat} {cs : gC} : ∃ r, sgn T k c cs = some r := by
  by_cases h : isg T k c
  · exact ⟨_, by unfold sgn; rw [if_pos h]; rfl⟩
  · exact ⟨_, by unfold sgn; rw [if_neg h]; rfl⟩
theorem ite_ex {c : Prop} [Decidable c] {a b : gR} (ha : c → ∃ r, a = some r) (hb : ¬ c → ∃ r, b = some r) : ∃ r, (if c then a else b) = some r := by
  by_cases h : c
  · rw [if_pos h]; exact ha h
  · rw [if_neg h]; exact hb h
def rdr (w : Nat) : Nat := match w with | 0 => 6 | 1 => 5 | 2 => 4 | 3 => 3 | 4 => 2 | _ => 1
theorem rd_ex (T : tT) (q : Bool) (nl : List (List Nat)) : ∀ n w o k, 8 * (T.2 + 1 - k) + rdr w ≤ n → ∃ r, rd T q nl n w o k = some r := by
  intro n
  induction n with
  | zero =>
    intro w o k h
    have : 1 ≤ rdr w := by unfold rdr; split <;> omega
    omega
  | succ n ih =>
    intro w o k h
    match w, h with
    | 0, h =>
      simp only [rdr] at h
      exact sq_ex (ih 1 o k (by simp only [rdr]; omega)) (fun j c hj => by
        have a : k + 1 ≤ j ∧ k + c.length ≤ j := rd_fit T q nl n 1 o k _ hj
        exact ih 6 o j (by simp only [rdr]; omega))
    | 1, h =>
      simp only [rdr] at h
      exact sq_ex (ih 2 o k (by simp only [rdr]; omega)) (fun j c hj => by
        have a : k + 1 ≤ j ∧ k + c.length ≤ j := rd_fit T q nl n 2 o k _ hj
        exact ih 7 o j (by simp only [rdr]; omega))
    | 2, h =>
      simp only [rdr] at h
      refine gif_ex (fun z => ?_) (fun _ => gif_ex (fun z => ?_) (fun _ => gif_ex (fun _ => gok_ex) (fun _ => ?_)))
      · have hk := kd_num (isg_k z)
        exact ite_ex (fun _ => gbad_ex) (fun _ => sq_ex (ih 0 (o + 1) (k + 1) (by simp only [rdr]; omega)) (fun _ _ _ => sgn_ex))
      · have hk := kd_num (isw_k z)
        exact ite_ex (fun _ => gbad_ex) (fun _ => sq_ex (ih 2 (o + 1) (k + 1) (by simp only [rdr]; omega)) (fun _ _ _ => gok_ex))
      · refine sq_ex (ih 3 o k (by simp only [rdr]; omega)) (fun j c hj => ?_)
        have a : k + 1 ≤ j ∧ k + c.length ≤ j := rd_fit T q nl n 3 o k _ hj
        have g : ∀ op, ∃ r, sq (rd T q nl n 3 o (j + 1)) (fun k => gok k [op]) = some r := fun op => sq_ex (ih 3 o (j + 1) (by simp only [rdr]; omega)) (fun _ _ _ => gok_ex)
        exact gif_ex (fun _ => g _) (fun _ => gif_ex (fun _ => g _) (fun _ => gif_ex (fun _ => g _) (fun _ => gbad_ex)))
    | 3, h =>
      simp only [rdr] at h
      exact sq_ex (ih 4 o k (by simp only [rdr]; omega)) (fun j c hj => by
        have a : k + 1 ≤ j ∧ k + c.length ≤ j := rd_fit T q nl n 4 o k _ hj
        exact ih 8 o j (by simp only [rdr]; omega))
    | 4, h =>
      simp only [rdr] at h
      exact sq_ex (ih 5 o k (by simp only [rdr]; omega)) (fun j c hj => by
        have a : k + 1 ≤ j ∧ k + c.length ≤ j := rd_fit T q nl n 5 o k _ hj
        exact ih 9 o j (by simp only [rdr]; omega))
    | 5, h =>
      simp only [rdr] at h
      refine gif_ex (fun z => ite_ex (fun _ => gbad_ex) (fun _ => gok_ex)) (fun _ => gif_ex (fun z => ?_) (fun _ => gif_ex (fun z => gif_ex (fun z2 => ?_) (fun _ => gbad_ex)) (fun _ => ?_)))
      · have hk := kd_num (isg_k z)
        exact ite_ex (fun _ => gbad_ex) (fun _ => sq_ex (ih 3 (o + 1) (k + 1) (by simp only [rdr]; omega)) (fun _ _ _ => sgn_ex))
      · have hk := kd_num (isg_k z2)
        refine ite_ex (fun _ => gbad_ex) (fun _ => sq_ex (ih 3 (o + 1) (k + 2) (by simp only [rdr]; omega)) (fun j c hj => ?_))
        have a : k + 2 + 1 ≤ j ∧ k + 2 + c.length ≤ j := rd_fit T q nl n 3 (o + 1) (k + 2) _ hj
        refine sq_ex sgn_ex (fun j2 c2 hj2 => ?_)
        have b : j ≤ j2 := by
          rcases sgn_some hj2 with ⟨_, e⟩ | ⟨_, e⟩
          · cases e; omega
          · cases e
        exact sq_ex (ih 3 (o + 1) j2 (by simp only [rdr]; omega)) (fun _ _ _ => sgn_ex)
      · have hkx : ∀ b, lkx q T k = some b → k < T.2 := by
          intro b hb
          refine kd_num ?_
          unfold lkx at hb
          split at hb
          · omega
          · cases hb
        cases hl : lkx q T k with
        | some b =>
          dsimp only
          have hk := hkx b hl
          exact ite_ex (fun _ => gbad_ex) (fun _ => sq_ex (ih 5 (o + 1) (k + 1) (by simp only [rdr]; omega)) (fun _ _ _ => gok_ex))
        | none =>
          dsimp only
          cases hf : lfx q nl T k with
          | some i => exact gok_ex
          | none => exact gbad_ex
    | 6, h =>
      simp only [rdr] at h
      refine gif_ex (fun z => ?_) (fun _ => gok_ex)
      have hk := kd_num (isw_k z)
      refine sq_ex (ih 1 o (k + 1) (by simp only [rdr]; omega)) (fun j c hj => ?_)
      have a : k + 1 + 1 ≤ j ∧ k + 1 + c.length ≤ j := rd_fit T q nl n 1 o (k + 1) _ hj
      exact sq_ex gok_ex (fun j2 c2 e => by cases e; exact ih 6 o j (by simp only [rdr]; omega))
    | 7, h =>
      simp only [rdr] at h
      refine gif_ex (fun z => ?_) (fun _ => gok_ex)
      have hk := kd_num (isw_k z)
      refine sq_ex (ih 2 o (k + 1) (by simp only [rdr]; omega)) (fun j c hj => ?_)
      have a : k + 1 + 1 ≤ j ∧ k + 1 + c.length ≤ j := rd_fit T q nl n 2 o (k + 1) _ hj
      exact sq_ex gok_ex (fun j2 c2 e => by cases e; exact ih 7 o j (by simp only [rdr]; omega))
    | 8, h =>
      simp only [rdr] at h
      have g : ∀ op, k < T.2 → ∃ r, sq (rd T q nl n 4 o (k + 1)) (fun k => sq (gok k [op]) (fun k => rd T q nl n 8 o k)) = some r := by
        intro op hk
        refine sq_ex (ih 4 o (k + 1) (by simp only [rdr]; omega)) (fun j c hj => ?_)
        have a : k + 1 + 1 ≤ j ∧ k + 1 + c.length ≤ j := rd_fit T q nl n 4 o (k + 1) _ hj
        exact sq_ex gok_ex (fun j2 c2 e => by cases e; exact ih 8 o j (by simp only [rdr]; omega))
      exact gif_ex (fun z => g _ (kd_num (isg_k z))) (fun _ => gif_ex (fun z => g _ (kd_num (isg_k z))) (fun _ => gok_ex))
    | w + 9, h =>
      have e : ∀ w, rdr (w + 9) = 1 := fun _ => rfl
      rw [e] at h
      have g : ∀ op, k < T.2 → ∃ r, sq (rd T q nl n 5 o (k + 1)) (fun k => sq (gok k [op]) (fun k => rd T q nl n 9 o k)) = some r := by
        intro op hk
        refine sq_ex (ih 5 o (k + 1) (by simp only [rdr]; omega)) (fun j c hj => ?_)
        have a : k + 1 + 1 ≤ j ∧ k + 1 + c.length ≤ j := rd_fit T q nl n 5 o (k + 1) _ hj
        exact sq_ex gok_ex (fun j2 c2 e => by cases e; exact ih 9 o j (by simp only [rdr]; omega))
      exact gif_ex (fun z => g _ (kd_num (isg_k z))) (fun _ => gif_ex (fun z => g _ (kd_num (isg_k z))) (fun _ => gok_ex))
/-- depth enough for every text -/
def rdN : Nat := 13000
noncomputable def rdT (T : tT) (q : Bool) (nl : List (List Nat)) (w k : Nat) : (Nat × Nat) ⊕ (Nat × gC) := (rd T q nl rdN w 0 k).getD (.inl (0, 0))
theorem rdT_some {T : tT} (hT : T.2 ≤ 1600) {q : Bool} {nl : List (List Nat)} {w k : Nat} : rd T q nl rdN w 0 k = some (rdT T q nl w k) := by
  have h : rdr w ≤ 6 := by unfold rdr; split <;> omega
  obtain ⟨r, hr⟩ := rd_ex T q nl rdN w 0 k (by unfold rdN; omega)
  unfold rdT
  rw [hr]
  rfl
