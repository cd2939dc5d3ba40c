/-! THE GRAMMAR of TESTS and SUMS: what is read from token k on: a fault with its place, or the next token and the steps (op, with) -/
abbrev gC : Type := List (Nat × Nat)
abbrev gR : Type := Option ((Nat × Nat) ⊕ (Nat × gC))
def gok (k : Nat) (c : gC) : gR := some (.inr (k, c))
def gbad (c p : Nat) : gR := some (.inl (c, p))
/-- one behind the other -/
def sq (a : gR) (f : Nat → gR) : gR := match a with
  | none => none
  | some (.inl e) => some (.inl e)
  | some (.inr x) => match f x.1 with
    | none => none
    | some (.inl e) => some (.inl e)
    | some (.inr y) => some (.inr (y.1, x.2 ++ y.2))
def isw (T : tT) (k j : Nat) : Prop := kd T k = 1 ∧ ow (lt T k) = j
noncomputable def sgn (T : tT) (k c : Nat) (cs : gC) : gR := @ite _ (isg T k c) (Classical.propDecidable _) (gok (k + 1) cs) (gbad 1 (fm T k))
/-- the first place of a name -/
def nix : List (List Nat) → Nat → List Nat → Option Nat
  | [], _, _ => none
  | n :: ns, i, l => if n = l then some i else nix ns (i + 1) l
def lfx (q : Bool) (nl : List (List Nat)) (T : tT) (k : Nat) : Option Nat :=
  if kd T k = 1 then (bif q then (if 13 ≤ ow (lt T k) ∧ ow (lt T k) ≤ 17 then some (ow (lt T k) - 3) else none) else (if 8 ≤ ow (lt T k) ∧ ow (lt T k) ≤ 11 then some (ow (lt T k) - 3) else nix nl 0 (lt T k))) else none
/-- the words with a part behind them -/
def lkx (q : Bool) (T : tT) (k : Nat) : Option Nat :=
  if kd T k = 1 then (bif q then (if ow (lt T k) = 18 then some 20 else if ow (lt T k) = 19 then some 25 else none) else (if ow (lt T k) = 12 then some 15 else none)) else none
noncomputable def gif {α : Type} (c : Prop) (a b : α) : α := @ite _ c (Classical.propDecidable _) a b
theorem gif_t {α : Type} {c : Prop} {a b : α} (h : c) : gif c a b = a := if_pos h
theorem gif_f {α : Type} {c : Prop} {a b : α} (h : ¬ c) : gif c a b = b := if_neg h
/-- by depth n, what (0 test, 1 both, 2 fact, 3 sum, 4 product, 5 part; 6 .. 9 what goes on with or, and, + -, * /), what is open, the token -/
noncomputable def rd (T : tT) (q : Bool) (nl : List (List Nat)) : Nat → Nat → Nat → Nat → gR
  | 0, _, _, _ => none
  | n + 1, w, o, k => match w with
    | 0 => sq (rd T q nl n 1 o k) (fun k => rd T q nl n 6 o k)
    | 1 => sq (rd T q nl n 2 o k) (fun k => rd T q nl n 7 o k)
    | 2 => gif (isg T k 91) (if 6 ≤ o then gbad 4 (fm T k) else sq (rd T q nl n 0 (o + 1) (k + 1)) (fun k => sgn T k 93 []))
        (gif (isw T k 22) (if 6 ≤ o then gbad 4 (fm T k) else sq (rd T q nl n 2 (o + 1) (k + 1)) (fun k => gok k [(3, 0)]))
        (gif (isw T k 23) (gok (k + 1) [(15, 1)])
        (sq (rd T q nl n 3 o k) (fun k => gif (isg T k 60) (sq (rd T q nl n 3 o (k + 1)) (fun k => gok k [(10, 0)]))
          (gif (isg T k 62) (sq (rd T q nl n 3 o (k + 1)) (fun k => gok k [(11, 0)]))
          (gif (isg T k 61) (sq (rd T q nl n 3 o (k + 1)) (fun k => gok k [(12, 0)])) (gbad 1 (fm T k))))))))
    | 3 => sq (rd T q nl n 4 o k) (fun k => rd T q nl n 8 o k)
    | 4 => sq (rd T q nl n 5 o k) (fun k => rd T q nl n 9 o k)
    | 5 => gif (kd T k = 2) (if 4 < to T k - fm T k then gbad 1 (fm T k + 4) else gok (k + 1) [(0, nv T k)])
        (gif (isg T k 40) (if 6 ≤ o then gbad 4 (fm T k) else sq (rd T q nl n 3 (o + 1) (k + 1)) (fun k => sgn T k 41 []))
        (gif (isw T k 24 ∨ isw T k 25) (gif (isg T (k + 1) 40) (if 6 ≤ o then gbad 4 (fm T (k + 1)) else sq (rd T q nl n 3 (o + 1) (k + 2)) (fun j => sq (sgn T j 44 []) (fun j => sq (rd T q nl n 3 (o + 1) j) (fun j => sgn T j 41 [(gif (isw T k 24) 8 9, 0)])))) (gbad 1 (fm T (k + 1))))
        (match lkx q T k with
          | some b => if 6 ≤ o then gbad 4 (fm T k) else sq (rd T q nl n 5 (o + 1) (k + 1)) (fun k => gok k [(2, b)])
          | none => match lfx q nl T k with
            | some i => gok (k + 1) [(1, i)]
            | none => gbad 1 (fm T k))))
    | 6 => gif (isw T k 20) (sq (rd T q nl n 1 o (k + 1)) (fun k => sq (gok k [(14, 0)]) (fun k => rd T q nl n 6 o k))) (gok k [])
    | 7 => gif (isw T k 21) (sq (rd T q nl n 2 o (k + 1)) (fun k => sq (gok k [(13, 0)]) (fun k => rd T q nl n 7 o k))) (gok k [])
    | 8 => gif (isg T k 43) (sq (rd T q nl n 4 o (k + 1)) (fun k => sq (gok k [(4, 0)]) (fun k => rd T q nl n 8 o k)))
        (gif (isg T k 45) (sq (rd T q nl n 4 o (k + 1)) (fun k => sq (gok k [(5, 0)]) (fun k => rd T q nl n 8 o k))) (gok k []))
    | _ => gif (isg T k 42) (sq (rd T q nl n 5 o (k + 1)) (fun k => sq (gok k [(6, 0)]) (fun k => rd T q nl n 9 o k)))
        (gif (isg T k 47) (sq (rd T q nl n 5 o (k + 1)) (fun k => sq (gok k [(7, 0)]) (fun k => rd T q nl n 9 o k))) (gok k []))
theorem sq_bad {f : Nat → gR} {e : Nat × Nat} : sq (some (.inl e)) f = some (.inl e) := rfl
theorem sq_none {f : Nat → gR} : sq none f = none := rfl
theorem sq_some {a : gR} {f : Nat → gR} {r : (Nat × Nat) ⊕ (Nat × gC)} (h : sq a f = some r) : (∃ e, a = some (.inl e) ∧ r = .inl e) ∨ (∃ k c, a = some (.inr (k, c)) ∧ ((∃ e, f k = some (.inl e) ∧ r = .inl e) ∨ ∃ k2 c2, f k = some (.inr (k2, c2)) ∧ r = .inr (k2, c ++ c2))) := by
  cases a with
  | none => cases h
  | some x =>
    cases x with
    | inl e => exact Or.inl ⟨e, rfl, (Option.some.inj h).symm⟩
    | inr y =>
      obtain ⟨k, c⟩ := y
      refine Or.inr ⟨k, c, rfl, ?_⟩
      unfold sq at h
      dsimp only at h
      cases hf : f k with
      | none => rw [hf] at h; cases h
      | some z =>
        rw [hf] at h
        cases z with
        | inl e => exact Or.inl ⟨e, rfl, (Option.some.inj h).symm⟩
        | inr y => exact Or.inr ⟨y.1, y.2, rfl, (Option.some.inj h).symm⟩
theorem sgn_some {T : tT} {k c : Nat} {cs : gC} {r : (Nat × Nat) ⊕ (Nat × gC)} (h : sgn T k c cs = some r) : (isg T k c ∧ r = .inr (k + 1, cs)) ∨ (¬ isg T k c ∧ r = .inl (1, fm T k)) := by
  unfold sgn at h
  by_cases q : isg T k c
  · rw [if_pos q] at h; exact Or.inl ⟨q, (Option.some.inj h).symm⟩
  · rw [if_neg q] at h; exact Or.inr ⟨q, (Option.some.inj h).symm⟩
theorem gif_some {α : Type} {c : Prop} {a b : Option α} {r : α} (h : gif c a b = some r) : (c ∧ a = some r) ∨ (¬ c ∧ b = some r) := by
  by_cases q : c
  · rw [gif_t q] at h; exact Or.inl ⟨q, h⟩
  · rw [gif_f q] at h; exact Or.inr ⟨q, h⟩
theorem gok_some {k : Nat} {c : gC} {r : (Nat × Nat) ⊕ (Nat × gC)} (h : gok k c = some r) : r = .inr (k, c) := (Option.some.inj h).symm
theorem gbad_some {c p : Nat} {r : (Nat × Nat) ⊕ (Nat × gC)} (h : gbad c p = some r) : r = .inl (c, p) := (Option.some.inj h).symm
theorem isg_k {T : tT} {k c : Nat} (h : isg T k c) : kd T k ≠ 0 := by have := h.1; omega
theorem isw_k {T : tT} {k j : Nat} (h : isw T k j) : kd T k ≠ 0 := by have := h.1; omega
theorem lfx_k {q : Bool} {nl : List (List Nat)} {T : tT} {k i : Nat} (h : lfx q nl T k = some i) : kd T k = 1 := by
  unfold lfx at h
  by_cases e : kd T k = 1
  · exact e
  · rw [if_neg e] at h; cases h
theorem lkx_k {q : Bool} {T : tT} {k i : Nat} (h : lkx q T k = some i) : kd T k = 1 := by
  unfold lkx at h
  by_cases e : kd T k = 1
  · exact e
  · rw [if_neg e] at h; cases h
/-- what a result is -/
def gfit (T : tT) (k d : Nat) (r : (Nat × Nat) ⊕ (Nat × gC)) : Prop := match r with
  | .inl e => (e.1 = 1 ∨ e.1 = 4) ∧ e.2 ≤ T.2
  | .inr x => k + d ≤ x.1 ∧ k + x.2.length ≤ x.1
theorem gfit_sq {T : tT} {k d k1 d1 : Nat} {a : gR} {f : Nat → gR} {r : (Nat × Nat) ⊕ (Nat × gC)} (h : sq a f = some r) (ha : ∀ x, a = some x → gfit T k d x) (hf : ∀ j c y, a = some (.inr (j, c)) → f j = some y → gfit T j d1 y) : gfit T k (d + d1) r := by
  rcases sq_some h with ⟨e, h1, rfl⟩ | ⟨j, c, h1, h2⟩
  · exact ha _ h1
  · have a1 := ha _ h1
    rcases h2 with ⟨e, h2, rfl⟩ | ⟨k2, c2, h2, rfl⟩
    · exact hf j c _ h1 h2
    · have a2 := hf j c _ h1 h2
      have a1 : k + d ≤ j ∧ k + c.length ≤ j := a1
      have a2 : j + d1 ≤ k2 ∧ j + c2.length ≤ k2 := a2
      show k + (d + d1) ≤ k2 ∧ k + (c ++ c2).length ≤ k2
      rw [List.length_append]
      omega
theorem gfit_lo {T : tT} {k k0 d d0 : Nat} {r : (Nat × Nat) ⊕ (Nat × gC)} (h : gfit T k d r) (h1 : k0 + d0 ≤ k + d) (h2 : k0 ≤ k) : gfit T k0 d0 r := by
  cases r with
  | inl e => exact h
  | inr x =>
    have a : k + d ≤ x.1 ∧ k + x.2.length ≤ x.1 := h
    show k0 + d0 ≤ x.1 ∧ k0 + x.2.length ≤ x.1
    omega
theorem gfit_ok {T : tT} {k j d : Nat} {c : gC} (h1 : k + d ≤ j) (h2 : k + c.length ≤ j) : gfit T k d (.inr (j, c)) := ⟨h1, h2⟩
theorem gfit_sgn {T : tT} {k c : Nat} {cs : gC} {r : (Nat × Nat) ⊕ (Nat × gC)} (h : sgn T k c cs = some r) (hc : cs.length ≤ 1) : gfit T k 1 r := by
  rcases sgn_some h with ⟨_, rfl⟩ | ⟨_, rfl⟩
  · exact gfit_ok (Nat.le_refl _) (by omega)
  · exact ⟨Or.inl rfl, fm_le T k⟩
theorem gfit_op {T : tT} {k0 k : Nat} {a : Nat × Nat} {r : (Nat × Nat) ⊕ (Nat × gC)} {f : gR} (h0 : k0 + 1 ≤ k) (h : f = some r) (hf : f = gok k [a] ∨ ∃ e, f = some (.inl e) ∧ gfit T k0 1 (.inl e)) : gfit T k0 1 r := by
  rcases hf with q | ⟨e, q, g⟩
  · rw [q] at h
    rw [gok_some h]
    exact gfit_ok h0 (by show k0 + 1 ≤ k; exact h0)
  · rw [q] at h
    cases h
    exact g
theorem rd_fit (T : tT) (q : Bool) (nl : List (List Nat)) : ∀ (n w o k : Nat) (r : (Nat × Nat) ⊕ (Nat × gC)), rd T q nl n w o k = some r → gfit T k (if w ≤ 5 then 1 else 0) r := by
  intro n
  induction n with
  | zero => intro w o k r h; cases h
  | succ n ih =>
    intro w o k r h
    -- op behind a piece that takes a token at least, ahead of what goes on
    have more : ∀ (w1 w2 k1 : Nat) (a : Nat × Nat), w1 ≤ 5 → 5 < w2 → k1 = k + 1 → sq (rd T q nl n w1 o k1) (fun k => sq (gok k [a]) (fun k => rd T q nl n w2 o k)) = some r → gfit T k 0 r := by
      intro w1 w2 k1 a hw1 hw2 hk1 h
      rcases sq_some h with ⟨e, h1, rfl⟩ | ⟨j, c, h1, h2⟩
      · exact ih _ _ _ _ h1
      · have a1 : k1 + (if w1 ≤ 5 then 1 else 0) ≤ j ∧ k1 + c.length ≤ j := ih _ _ _ _ h1
        rw [if_pos hw1] at a1
        rcases h2 with ⟨e, h2, rfl⟩ | ⟨k2, c2, h2, rfl⟩
        · rcases sq_some h2 with ⟨e, h3, e1⟩ | ⟨j2, c3, h3, h4⟩
          · cases h3
          · cases h3
            rcases h4 with ⟨e, h4, e1⟩ | ⟨k3, c4, h4, e1⟩
            · cases e1; exact ih _ _ _ _ h4
            · cases e1
        · rcases sq_some h2 with ⟨e, h3, e1⟩ | ⟨j2, c3, h3, h4⟩
          · cases h3
          · cases h3
            rcases h4 with ⟨e, h4, e1⟩ | ⟨k3, c4, h4, e1⟩
            · cases e1
            · cases e1
              have a2 : j + (if w2 ≤ 5 then 1 else 0) ≤ k2 ∧ j + c4.length ≤ k2 := ih _ _ _ _ h4
              rw [if_neg (by omega)] at a2
              refine gfit_ok (by omega) ?_
              rw [List.length_append, List.length_append, List.length_singleton]
              omega
    -- behind an opening: inner, then a last token or a step
    have inner : ∀ (w1 k1 : Nat) (f : Nat → gR), w1 ≤ 5 → k + 1 ≤ k1 → (∀ j c y, rd T q nl n w1 (o + 1) k1 = some (.inr (j, c)) → f j = some y → (∃ e, y = .inl e ∧ gfit T k 1 (.inl e)) ∨ ∃ j2 c2, y = .inr (j2, c2) ∧ j ≤ j2 ∧ c2.length ≤ 1) → sq (rd T q nl n w1 (o + 1) k1) f = some r → gfit T k 1 r := by
      intro w1 k1 f hw1 hk1 hf h
      rcases sq_some h with ⟨e, h1, rfl⟩ | ⟨j, c, h1, h2⟩
      · exact ih _ _ _ _ h1
      · have a1 : k1 + (if w1 ≤ 5 then 1 else 0) ≤ j ∧ k1 + c.length ≤ j := ih _ _ _ _ h1
        rw [if_pos hw1] at a1
        rcases h2 with ⟨e, h2, rfl⟩ | ⟨k2, c2, h2, rfl⟩
        · rcases hf j c _ h1 h2 with ⟨e2, q1, q2⟩ | ⟨j2, c3, q1, _⟩
          · cases q1; exact q2
          · cases q1
        · rcases hf j c _ h1 h2 with ⟨e2, q1, q2⟩ | ⟨j2, c3, q1, q2, q3⟩
          · cases q1
          · cases q1
            refine gfit_ok (by omega) ?_
            rw [List.length_append]
            omega
    have op1 : ∀ (a : Nat × Nat) (j : Nat) (y : (Nat × Nat) ⊕ (Nat × gC)), gok j [a] = some y → (∃ e, y = .inl e ∧ gfit T k 1 (.inl e)) ∨ ∃ j2 c2, y = .inr (j2, c2) ∧ j ≤ j2 ∧ c2.length ≤ 1 := fun a j y h => Or.inr ⟨j, [a], gok_some h, Nat.le_refl _, Nat.le_refl _⟩
    have sg1 : ∀ (c j : Nat) (cs : gC) (y : (Nat × Nat) ⊕ (Nat × gC)), cs.length ≤ 1 → sgn T j c cs = some y → (∃ e, y = .inl e ∧ gfit T k 1 (.inl e)) ∨ ∃ j2 c2, y = .inr (j2, c2) ∧ j ≤ j2 ∧ c2.length ≤ 1 := by
      intro c j cs y hcs h
      rcases sgn_some h with ⟨_, rfl⟩ | ⟨_, rfl⟩
      · exact Or.inr ⟨j + 1, cs, rfl, by omega, hcs⟩
      · exact Or.inl ⟨_, rfl, Or.inl rfl, fm_le T j⟩
    match w, h, more, inner with
    | 0, h, _, _ =>
      exact gfit_sq (k1 := 0) (d := 1) (d1 := 0) h (fun x hx => ih 1 _ _ _ hx) (fun j c y _ hy => ih 6 _ _ _ hy)
    | 1, h, _, _ =>
      exact gfit_sq (k1 := 0) (d := 1) (d1 := 0) h (fun x hx => ih 2 _ _ _ hx) (fun j c y _ hy => ih 7 _ _ _ hy)
    | 2, h, _, inner =>
      have h : gif _ _ _ = some r := h
      rcases gif_some h with ⟨_, h⟩ | ⟨_, h⟩
      · split at h
        · rw [gbad_some h]; exact ⟨Or.inr rfl, fm_le T k⟩
        · exact inner 0 (k + 1) _ (by decide) (Nat.le_refl _) (fun j c y _ hy => sg1 93 j [] y (by decide) hy) h
      rcases gif_some h with ⟨_, h⟩ | ⟨_, h⟩
      · split at h
        · rw [gbad_some h]; exact ⟨Or.inr rfl, fm_le T k⟩
        · exact inner 2 (k + 1) _ (by decide) (Nat.le_refl _) (fun j c y _ hy => op1 _ j y hy) h
      rcases gif_some h with ⟨_, h⟩ | ⟨_, h⟩
      · rw [gok_some h]; exact gfit_ok (Nat.le_refl _) (Nat.le_refl _)
      refine gfit_lo (d := 1 + 1) (gfit_sq (k1 := 0) (d := 1) (d1 := 1) h (fun x hx => ih 3 _ _ _ hx) (fun j c y _ hy => ?_)) (by show k + 1 ≤ _; omega) (Nat.le_refl _)
      have cmp : ∀ a, sq (rd T q nl n 3 o (j + 1)) (fun k => gok k [a]) = some y → gfit T j 1 y := by
        intro a h
        rcases sq_some h with ⟨e, h1, rfl⟩ | ⟨i, c2, h1, h2⟩
        · have a0 := ih 3 _ _ _ h1
          exact a0
        · have a1 : j + 1 + 1 ≤ i ∧ j + 1 + c2.length ≤ i := ih 3 _ _ _ h1
          rcases h2 with ⟨e, h2, rfl⟩ | ⟨k2, c3, h2, rfl⟩
          · cases h2
          · cases h2
            refine gfit_ok (by omega) ?_
            rw [List.length_append, List.length_singleton]
            omega
      rcases gif_some hy with ⟨_, hy⟩ | ⟨_, hy⟩
      · exact cmp _ hy
      rcases gif_some hy with ⟨_, hy⟩ | ⟨_, hy⟩
      · exact cmp _ hy
      rcases gif_some hy with ⟨_, hy⟩ | ⟨_, hy⟩
      · exact cmp _ hy
      · rw [gbad_some hy]; exact ⟨Or.inl rfl, fm_le T j⟩
    | 3, h, _, _ =>
      exact gfit_sq (k1 := 0) (d := 1) (d1 := 0) h (fun x hx => ih 4 _ _ _ hx) (fun j c y _ hy => ih 8 _ _ _ hy)
    | 4, h, _, _ =>
      exact gfit_sq (k1 := 0) (d := 1) (d1 := 0) h (fun x hx => ih 5 _ _ _ hx) (fun j c y _ hy => ih 9 _ _ _ hy)
    | 5, h, _, inner =>
      have h : gif _ _ _ = some r := h
      rcases gif_some h with ⟨hk, h⟩ | ⟨_, h⟩
      · split at h
        · rw [gbad_some h]
          refine ⟨Or.inl rfl, ?_⟩
          have := to_le T k
          show fm T k + 4 ≤ T.2
          omega
        · rw [gok_some h]; exact gfit_ok (Nat.le_refl _) (Nat.le_refl _)
      rcases gif_some h with ⟨_, h⟩ | ⟨_, h⟩
      · split at h
        · rw [gbad_some h]; exact ⟨Or.inr rfl, fm_le T k⟩
        · exact inner 3 (k + 1) _ (by decide) (Nat.le_refl _) (fun j c y _ hy => sg1 41 j [] y (by decide) hy) h
      rcases gif_some h with ⟨_, h⟩ | ⟨_, h⟩
      · rcases gif_some h with ⟨_, h⟩ | ⟨_, h⟩
        · split at h
          · rw [gbad_some h]; exact ⟨Or.inr rfl, fm_le T (k + 1)⟩
          · refine gfit_lo (k := k + 2) (d := 1 + (1 + (1 + 1))) (gfit_sq (k1 := 0) (d := 1) (d1 := 1 + (1 + 1)) h (fun x hx => ih 3 _ _ _ hx) (fun j c y _ hy => ?_)) (by show k + 1 ≤ _; omega) (by omega)
            refine gfit_sq (k1 := 0) (d := 1) (d1 := 1 + 1) hy (fun x hx => gfit_sgn hx (by decide)) (fun j c y _ hy => ?_)
            exact gfit_sq (k1 := 0) (d := 1) (d1 := 1) hy (fun x hx => ih 3 _ _ _ hx) (fun j c y _ hy => gfit_sgn hy (Nat.le_refl _))
        · rw [gbad_some h]; exact ⟨Or.inl rfl, fm_le T (k + 1)⟩
      cases hl : lkx q T k with
      | some b =>
        rw [hl] at h
        dsimp only at h
        split at h
        · rw [gbad_some h]; exact ⟨Or.inr rfl, fm_le T k⟩
        · exact inner 5 (k + 1) _ (by decide) (Nat.le_refl _) (fun j c y _ hy => op1 _ j y hy) h
      | none =>
        rw [hl] at h
        dsimp only at h
        cases hf : lfx q nl T k with
        | some i =>
          rw [hf] at h
          rw [gok_some h]; exact gfit_ok (Nat.le_refl _) (Nat.le_refl _)
        | none =>
          rw [hf] at h
          rw [gbad_some h]; exact ⟨Or.inl rfl, fm_le T k⟩
    | 6, h, more, _ =>
      have h : gif _ _ _ = some r := h
      rcases gif_some h with ⟨_, h⟩ | ⟨_, h⟩
      · exact more 1 6 (k + 1) _ (by decide) (by decide) rfl h
      · rw [gok_some h]; exact gfit_ok (Nat.le_refl _) (Nat.le_refl _)
    | 7, h, more, _ =>
      have h : gif _ _ _ = some r := h
      rcases gif_some h with ⟨_, h⟩ | ⟨_, h⟩
      · exact more 2 7 (k + 1) _ (by decide) (by decide) rfl h
      · rw [gok_some h]; exact gfit_ok (Nat.le_refl _) (Nat.le_refl _)
    | 8, h, more, _ =>
      have h : gif _ _ _ = some r := h
      rcases gif_some h with ⟨_, h⟩ | ⟨_, h⟩
      · exact more 4 8 (k + 1) _ (by decide) (by decide) rfl h
      rcases gif_some h with ⟨_, h⟩ | ⟨_, h⟩
      · exact more 4 8 (k + 1) _ (by decide) (by decide) rfl h
      · rw [gok_some h]; exact gfit_ok (Nat.le_refl _) (Nat.le_refl _)
    | w + 9, h, more, _ =>
      rw [if_neg (show ¬ (w + 9 ≤ 5) by omega)]
      have h : gif _ _ _ = some r := h
      rcases gif_some h with ⟨_, h⟩ | ⟨_, h⟩
      · exact more 5 9 (k + 1) _ (by decide) (by decide) rfl h
      rcases gif_some h with ⟨_, h⟩ | ⟨_, h⟩
      · exact more 5 9 (k + 1) _ (by decide) (by decide) rfl h
      · rw [gok_some h]; exact gfit_ok (Nat.le_refl _) (Nat.le_refl _)
theorem nIn {a b : Nat} (q : ¬ a = b) (ha : a < 2 ^ 31) (hb : b < 2 ^ 31) : ¬ nI a = nI b := fun z => q ((nI_eq ha hb).mp z)
