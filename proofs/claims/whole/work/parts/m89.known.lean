/-! THE LAW: what the tables say of the classes and the arrays -/
theorem lKa {args : Array Value} {s : State} {ty : FieldType} (h : (Cond.arrayClass ty).before args s = true) (hty : ∀ U c, U.vm.findClass ("[" ++ ty.toString) = some c → va_RA U c ty) : ∃ c : ClassId, ArrOfT s c ty ∧ va_RA s c ty := by
  obtain ⟨c, kA, comp, hf, hk, hkind⟩ := Cond.arrayClass_spec h
  exact ⟨c, fun n z => ⟨fun k h => (by cases h), kA, hk, comp, hkind⟩, hty s c hf⟩
theorem lK {args : Array Value} {s : State} (hts : ∀ w ∈ fhtbl, w.before args s = true) : ∃ (D : va_G) (cA : Nat → ClassId), va_K D vwCl (fhtys cA) s := by
  have hk : ∀ k : Nat, ∃ (cC : ClassId) (iS : Nat → Nat), ∀ q, vwCl[k]? = some q → u_Kn s q.1 q.2.1 q.2.2 cC iS := fun k => by
    by_cases h : k < 13
    · obtain ⟨hcv, hws, -, -⟩ := fhcl_ok k h
      obtain ⟨-, -, -, hinst⟩ := gin k h
      obtain ⟨c0, iS0, hKn⟩ := u_known (C := fhrx k) (T := fhcT k) (N := fhcN k) (n := fhcN k) hts hws (hts _ hinst)
      exact ⟨c0, iS0, fun q hq => by rw [hcv] at hq; cases hq; exact hKn⟩
    · refine ⟨(0 : Nat), fun _ => 0, fun q hq => ?_⟩
      have := (List.getElem?_eq_some_iff.mp hq).1
      exact absurd this h
  obtain ⟨c0, a0, b0⟩ := lKa (hts _ garr.1) (fun _ _ h => h)
  obtain ⟨c1, a1, b1⟩ := lKa (hts _ garr.2.1) (fun _ _ h => h)
  obtain ⟨c2, a2, b2⟩ := lKa (hts _ garr.2.2.1) (fun _ _ h => h)
  obtain ⟨c3, a3, b3⟩ := lKa (hts _ garr.2.2.2) (fun _ _ h => h)
  refine ⟨(fun k => Classical.choose (hk k), fun k => Classical.choose (Classical.choose_spec (hk k))), fun k => if k = 0 then c0 else if k = 1 then c1 else if k = 2 then c2 else c3, fun k q hq => Classical.choose_spec (Classical.choose_spec (hk k)) q hq, fun k q hq => ?_⟩
  match k, hq with
  | 0, hq => cases hq; exact ⟨a0, b0⟩
  | 1, hq => cases hq; exact ⟨a1, b1⟩
  | 2, hq => cases hq; exact ⟨a2, b2⟩
  | 3, hq => cases hq; exact ⟨a3, b3⟩
  | k + 4, hq => cases hq
