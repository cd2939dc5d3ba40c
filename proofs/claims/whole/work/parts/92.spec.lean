/-! THE STATEMENTS OF A PARLOUR, as they are to be read -/
abbrev fhPS : Type := Nat × Nat × List (List Nat × Nat) × (Nat → Nat) × List gC × List gC × Nat
abbrev fhPS.n (p : fhPS) : Nat := p.1
abbrev fhPS.m (p : fhPS) : Nat := p.2.1
abbrev fhPS.gs (p : fhPS) : List (List Nat × Nat) := p.2.2.1
abbrev fhPS.bl (p : fhPS) : Nat → Nat := p.2.2.2.1
abbrev fhPS.ru (p : fhPS) : List gC := p.2.2.2.2.1
abbrev fhPS.fa (p : fhPS) : List gC := p.2.2.2.2.2.1
abbrev fhPS.sl (p : fhPS) : Nat := p.2.2.2.2.2.2
abbrev fhPS.wn (p : fhPS) (x : Nat) : fhPS := (x, p.2.1, p.2.2.1, p.2.2.2.1, p.2.2.2.2.1, p.2.2.2.2.2.1, p.2.2.2.2.2.2)
abbrev fhPS.wm (p : fhPS) (x : Nat) : fhPS := (p.1, x, p.2.2.1, p.2.2.2.1, p.2.2.2.2.1, p.2.2.2.2.2.1, p.2.2.2.2.2.2)
abbrev fhPS.wgs (p : fhPS) (x : List (List Nat × Nat)) : fhPS := (p.1, p.2.1, x, p.2.2.2.1, p.2.2.2.2.1, p.2.2.2.2.2.1, p.2.2.2.2.2.2)
abbrev fhPS.wbl (p : fhPS) (x : Nat → Nat) : fhPS := (p.1, p.2.1, p.2.2.1, x, p.2.2.2.2.1, p.2.2.2.2.2.1, p.2.2.2.2.2.2)
abbrev fhPS.wru (p : fhPS) (x : List gC) : fhPS := (p.1, p.2.1, p.2.2.1, p.2.2.2.1, x, p.2.2.2.2.2.1, p.2.2.2.2.2.2)
abbrev fhPS.wfa (p : fhPS) (x : List gC) : fhPS := (p.1, p.2.1, p.2.2.1, p.2.2.2.1, p.2.2.2.2.1, x, p.2.2.2.2.2.2)
abbrev fhPS.wsl (p : fhPS) (x : Nat) : fhPS := (p.1, p.2.1, p.2.2.1, p.2.2.2.1, p.2.2.2.2.1, p.2.2.2.2.2.1, x)
def fhPS.nl (p : fhPS) : List (List Nat) := p.gs.map Prod.fst
abbrev gS : Type := (Nat × Nat) ⊕ (Nat × fhPS)
noncomputable def semi (T : tT) (k : Nat) (p : fhPS) : gS := gif (isg T k 59) (.inr (k + 1, (fhPS.wn p (p.n + 1)))) (.inl (1, fm T k))
noncomputable def sGuest (T : tT) (p : fhPS) (k : Nat) : gS :=
  gif ((aF T k).1 = 0)
    (gif (lt T k ∈ p.nl) (.inl (3, fm T k))
      (gif (isw T (k + 1) 2)
        (gif ((nF T (k + 2) 0 (p.m - 1)).1 = 0) (semi T (k + 3) (fhPS.wgs p (p.gs ++ [(lt T k, nv T (k + 2))]))) (.inl (nF T (k + 2) 0 (p.m - 1))))
        (.inl (1, fm T (k + 1)))))
    (.inl (aF T k))
def bl1 (bl : Nat → Nat) (a b : Nat) : Nat → Nat := fun x => if x = a then bl a ||| 2 ^ b else bl x
noncomputable def sBlind (T : tT) (p : fhPS) (k : Nat) : gS :=
  gif ((aF T k).1 = 0)
    (match nix p.nl 0 (lt T k) with
      | none => .inl (3, fm T k)
      | some a => gif (isw T (k + 1) 4)
        (gif ((aF T (k + 2)).1 = 0)
          (match nix p.nl 0 (lt T (k + 2)) with
            | none => .inl (3, fm T (k + 2))
            | some b => gif (a = b ∨ (p.bl a).testBit b = true) (.inl (3, fm T (k + 2))) (semi T (k + 3) (fhPS.wbl p (bl1 p.bl a b))))
          (.inl (aF T (k + 2))))
        (.inl (1, fm T (k + 1))))
    (.inl (aF T k))
noncomputable def sTest (T : tT) (p : fhPS) (is : Bool) (k : Nat) : gS :=
  match rdT T false p.nl 0 k with
  | .inl e => .inl e
  | .inr x => semi T x.1 (bif is then (fhPS.wru p (p.ru ++ [x.2])) else (fhPS.wfa p (p.fa ++ [x.2])))
noncomputable def sSlip (T : tT) (p : fhPS) (k : Nat) : gS :=
  gif ((nF T k 0 100).1 = 0) (semi T (k + 1) (fhPS.wsl p (nv T k))) (.inl (nF T k 0 100))
noncomputable def stm (T : tT) (p : fhPS) (k : Nat) : gS :=
  gif (p.n = 60) (.inl (5, fm T k))
  (gif (isw T k 1) (gif (p.gs.length = 5) (.inl (5, fm T k)) (sGuest T p (k + 1)))
  (gif (isw T k 3) (sBlind T p (k + 1))
  (gif (isw T k 5) (gif (p.ru.length = 4) (.inl (5, fm T k)) (sTest T p true (k + 1)))
  (gif (isw T k 6) (gif (p.fa.length = 8) (.inl (5, fm T k)) (sTest T p false (k + 1)))
  (gif (isw T k 7) (sSlip T p (k + 1)) (.inl (1, fm T k)))))))
def ps0 : fhPS := ⟨0, 0, [], fun _ => 0, [], [], 0⟩
noncomputable def stm0 (T : tT) (p : fhPS) (k : Nat) : gS :=
  gif (isw T k 0) (gif ((nF T (k + 1) 2 4).1 = 0) (semi T (k + 2) (fhPS.wm p (nv T (k + 1)))) (.inl (nF T (k + 1) 2 4))) (.inl (1, fm T k))
noncomputable def sAll (T : tT) : Nat → fhPS → Nat → (Nat × Nat) ⊕ fhPS
  | 0, _, _ => .inl (5, 0)
  | f + 1, p, k => gif (kd T k = 0) (.inr p) (match stm T p k with
    | .inl e => .inl e
    | .inr x => sAll T f x.2 x.1)
noncomputable def sText (T : tT) : (Nat × Nat) ⊕ fhPS := match stm0 T ps0 0 with
  | .inl e => .inl e
  | .inr x => sAll T 60 x.2 x.1
/-- what holds of a part that was read up to token k -/
def sOK (T : tT) (p : fhPS) (k : Nat) : Prop :=
  1 ≤ p.n ∧ p.n ≤ 60 ∧ 2 ≤ p.m ∧ p.m ≤ 4 ∧ p.gs.length ≤ 5 ∧ (∀ x ∈ p.gs, (∀ c ∈ x.1, tS c = 1) ∧ x.1.length ≤ 6 ∧ x.1 ≠ [] ∧ x.2 < p.m) ∧
  (∀ a, p.bl a < 32) ∧ p.ru.length ≤ 4 ∧ p.fa.length ≤ 8 ∧ p.sl ≤ 100 ∧ (∀ c, c ∈ p.ru ∨ c ∈ p.fa → ∃ nl j i, rd T false nl rdN 0 0 j = some (.inr (i, c)) ∧ nl.length ≤ p.gs.length) ∧
  (p.ru.map List.length).sum + (p.fa.map List.length).sum ≤ k ∧ k ≤ T.2
