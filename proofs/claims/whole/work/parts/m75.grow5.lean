section
variable {l : Launch} {D : va_G} {b : Nat} {cA : Nat → ClassId} {X : State → Prop} {p : Program} {e : Env} {R : Room} {s : State} {m : MethodId} {args : Array Value} {below : List Frame} {meth : Method} {c : Code} {H : Heap} {locs : List Loc} {cl sl : Nat} {Q : State → Prop} {x pc : Nat} {ls : Array Slot} {lv : List (Nat × Value)} {st st' : List Value} {w w' : List gE} {k dc ds : Nat} {i : Instr}
theorem gna {y : Nat} {t : ArrayType} {ty : FieldType} {n : Int32} {a0 : vp_A} {r : List Value} (hx : p.tables.exec = Jvm.exec) (hb : c.code = gcd x) (hts : ∀ w ∈ fhtbl, w.before args s = true) (hK : va_K D vwCl (fhtys cA) s) (hbs : b < s.heap.size) (hM : gMem D b cA s H locs w cl) (hty : newarray.typeOf t = ty) (hRA : ∀ (U : State) (c : ClassId), va_RA U c ty → U.vm.findClass ("[" ++ ty.toString) = some c) (hyt : (fhtys cA)[y]? = some (cA y, ty)) (harr : Cond.arrayClass ty ∈ fhtbl) (h8 : componentBytes ty ≤ 8) (ha : ∀ c : ClassId, vp_cell c a0 = arrV c n.toNatClampNeg (fun _ => defaultValue ty)) (he : gent b cA (1, y, n.toNatClampNeg, [], []) = .inl (cA y, a0)) (hn0 : ¬ n < 0) (hn : n.toNatClampNeg ≤ 60000)
    (hR : cl + 1 ≤ R.cells ∧ sl + n.toNatClampNeg ≤ R.slots) (hd : decode (gcd x) pc = .ok (.newarray t, 2))
    (kk : ∀ (H1 : Heap) (locs1 : List Loc), gMem D b cA s H1 locs1 (w ++ [(1, y, n.toNatClampNeg, [], [])]) (cl + 1) → W p l e R s m args below meth c H1 locs1 (cl + 1) (sl + n.toNatClampNeg) Q (F0 m (pc + 2) ls (.ref (b + w.length) :: r))) : W p l e R s m args below meth c H locs cl sl Q (F0 m pc ls (.int n :: r)) := by
  obtain ⟨hP, hS, hN⟩ := hM
  have hA : ∀ q, s.heap.size ≤ q → gAa b q := fun q hq => Nat.le_trans (Nat.le_of_lt hbs) hq
  have hbt : n.toNatClampNeg * componentBytes ty ≤ 536870912 := Nat.le_trans (Nat.mul_le_mul hn h8) (by decide)
  refine va_newa hx hb (by rw [hty]; exact hts _ harr) hty hK hP gws_D hS hA ha hn0 rfl hbt hR.1 hR.2 hd (fun q c1 H1 hK1 hP1 hD1 hS1 => ?_)
  have e1 : c1 = cA y := Option.some.inj ((hRA s c1 (hK1.2 4 (c1, ty) rfl).2).symm.trans (hRA s (cA y) (hK.2 y _ hyt).2))
  subst e1
  refine gW_sz (fun hz => ?_)
  have hq : q = b + w.length := gws_new hP1 hD1 (by omega)
  subst hq
  rw [← he, gws_push] at hP1
  exact kk H1 locs ⟨hP1, hS1, by rw [List.length_append]; show b + (w.length + 1) = _; omega⟩
end
