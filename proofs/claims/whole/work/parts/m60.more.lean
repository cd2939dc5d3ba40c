/-! MORE: constants, switches, names for values, loops with fuel, what else is known of the start -/
theorem fhW.ldcw {Y : fhY} {own : Nat} {cc : ByteArray} {nL : Nat} {ret : Option FieldType} {Γ : fhX} (hΓ : fhOk Y own cc nL ret Γ) {pc idx : Nat} {v : Int32} {lv : List (Nat × Value)} {st : List Value} {σ : fhM} (hc : Cond.constant (fhrx own) idx v ∈ fhtbl) (hd : decode cc pc = .ok (.ldc_w idx, 3)) (kk : fhW Y Γ (pc + 3) lv (.int v :: st) σ) : fhW Y Γ pc lv st σ := by
  obtain ⟨⟨l, D, b, cA, X⟩, d, p, e, s, m, args, below, meth, c, r, σe⟩ := Γ
  obtain ⟨hx, hb, hml, hown, hts, -⟩ := hΓ
  intro ls H locs hl hP hS
  exact lv_ldcw hx hb hown (hts _ hc) hd (kk ls H locs hl hP hS)
/-! switches -/
def fhsw (Y : fhY) (Γ : fhX) (lv : List (Nat × Value)) (st : List Value) (σ : fhM) (x : Int32) (dflt : Nat) : List (Int32 × Nat) → Prop
  | [] => fhW Y Γ dflt lv st σ
  | q :: r => (x = q.1 → fhW Y Γ q.2 lv st σ) ∧ (¬ x = q.1 → fhsw Y Γ lv st σ x dflt r)
def fhsel (x : Int32) (dflt : Nat) : List (Int32 × Nat) → Nat
  | [] => dflt
  | q :: r => if x = q.1 then q.2 else fhsel x dflt r
theorem fhsw_sel {Y : fhY} {Γ : fhX} {lv : List (Nat × Value)} {st : List Value} {σ : fhM} {x : Int32} {dflt : Nat} {l : List (Int32 × Nat)} (h : fhsw Y Γ lv st σ x dflt l) : fhW Y Γ (fhsel x dflt l) lv st σ := by
  induction l with
  | nil => exact h
  | cons q r ih =>
    unfold fhsel
    by_cases hx : x = q.1
    · rw [if_pos hx]; exact h.1 hx
    · rw [if_neg hx]; exact ih (h.2 hx)
theorem fhsel_out {x : Int32} {dflt : Nat} {l : List (Int32 × Nat)} (h : ∀ q ∈ l, ¬ x = q.1) : fhsel x dflt l = dflt := by
  induction l with
  | nil => rfl
  | cons q r ih =>
    unfold fhsel
    rw [if_neg (h q List.mem_cons_self)]
    exact ih (fun a ha => h a (List.mem_cons_of_mem _ ha))
/-- a table of jumps: rows lo .. hi with their targets -/
def fhtk (cc : ByteArray) (pc : Nat) (dflt lo hi : Int) (offs : Array Int) (len td : Nat) (cs : List (Int32 × Nat)) : Bool :=
  decide (decode cc pc = .ok (.tableswitch dflt lo hi offs, len)) && (decide ((pc : Int) + dflt = (td : Int)) && (cs.all (fun q => decide (lo ≤ q.1.toInt) && decide (q.1.toInt ≤ hi)) && (decide (offs.size = (hi - lo + 1).toNat) &&
    (List.range offs.size).all (fun j => decide ((pc : Int) + offs.toList.getD j 0 = (fhsel (Int32.ofInt (lo + (j : Int))) td cs : Int)) && decide ((Int32.ofInt (lo + (j : Int))).toInt = lo + (j : Int))))))
theorem fhW.tsw {Y : fhY} {own : Nat} {cc : ByteArray} {nL : Nat} {ret : Option FieldType} {Γ : fhX} (hΓ : fhOk Y own cc nL ret Γ) {pc len td : Nat} {dflt lo hi : Int} {offs : Array Int} (cs : List (Int32 × Nat)) {lv : List (Nat × Value)} {st : List Value} {σ : fhM} {x : Int32} (hd : fhtk cc pc dflt lo hi offs len td cs = true) (kk : fhsw Y Γ lv st σ x td cs) : fhW Y Γ pc lv (.int x :: st) σ := by
  have k1 := fhsw_sel kk
  obtain ⟨⟨l, D, b, cA, X⟩, d, p, e, s, m, args, below, meth, c, r, σe⟩ := Γ
  obtain ⟨hx, hb, -⟩ := hΓ
  obtain ⟨h1, h⟩ := fhand hd
  obtain ⟨h2, h⟩ := fhand h
  obtain ⟨h3, h⟩ := fhand h
  obtain ⟨h4, h5⟩ := fhand h
  have h1 := of_decide_eq_true h1
  have h2 := of_decide_eq_true h2
  have h4 := of_decide_eq_true h4
  intro ls H locs hl hP hS
  by_cases ho : x.toInt < lo ∨ hi < x.toInt
  · have e1 : fhsel x td cs = td := fhsel_out (fun q hq e => by
      have a := List.all_eq_true.mp h3 q hq
      simp only [Bool.and_eq_true, decide_eq_true_eq] at a
      rw [e] at ho
      omega)
    rw [e1] at k1
    exact lv_tableOut hx hb h1 ho h2 (k1 ls H locs hl hP hS)
  · have g1 : ¬ x.toInt < lo := fun q => ho (Or.inl q)
    have g2 : ¬ hi < x.toInt := fun q => ho (Or.inr q)
    have hj : (x.toInt - lo).toNat < offs.size := by omega
    have a := List.all_eq_true.mp h5 _ (List.mem_range.mpr hj)
    simp only [Bool.and_eq_true, decide_eq_true_eq] at a
    obtain ⟨a1, a2⟩ := a
    have e0 : lo + (((x.toInt - lo).toNat : Nat) : Int) = x.toInt := by omega
    rw [e0] at a1 a2
    have e1 : Int32.ofInt x.toInt = x := Int32.toInt_inj.mp a2
    rw [e1] at a1
    have e2 : offs[(x.toInt - lo).toNat]? = some (offs.toList.getD (x.toInt - lo).toNat 0) := by
      rw [List.getD_eq_getElem?_getD, Array.getElem?_toList, Array.getElem?_eq_getElem hj]
      rfl
    exact lv_tableIn hx hb h1 g1 g2 e2 a1 (k1 ls H locs hl hP hS)
def fhlk (cc : ByteArray) (pc : Nat) (dflt : Int) (ps : Array (Int × Int)) (len td : Nat) (cs : List (Int32 × Nat)) : Bool :=
  decide (decode cc pc = .ok (.lookupswitch dflt ps, len)) && (decide ((pc : Int) + dflt = (td : Int)) && ((ps.toList.zip (ps.toList.drop 1)).all (fun (a, next) => a.1 < next.1) && decide (ps.toList.map (fun q => (q.1, (pc : Int) + q.2)) = cs.map (fun q => (q.1.toInt, (q.2 : Int))))))
theorem fhlsw {pc td : Nat} {dflt : Int} {x : Int32} (hd : (pc : Int) + dflt = (td : Int)) : ∀ (ps : List (Int × Int)) (cs : List (Int32 × Nat)), ps.map (fun q => (q.1, (pc : Int) + q.2)) = cs.map (fun q => (q.1.toInt, (q.2 : Int))) → (pc : Int) + Op.lookupswitch.offset ps dflt x.toInt = (fhsel x td cs : Int)
  | [], [], _ => by rw [show Op.lookupswitch.offset [] dflt x.toInt = dflt by simp [Op.lookupswitch.offset]]; exact hd
  | [], _ :: _, h => by cases h
  | _ :: _, [], h => by cases h
  | (a, o) :: ps, (k, t) :: cs, h => by
    simp only [List.map_cons, List.cons.injEq, Prod.mk.injEq] at h
    obtain ⟨⟨h1, h2⟩, h3⟩ := h
    unfold fhsel
    by_cases hx : x = k
    · rw [if_pos hx, Op.lookupswitch.offset_cons, if_pos (by rw [hx, h1]), h2]
    · rw [if_neg hx, lv_osw hx h1.symm]
      exact fhlsw hd ps cs h3
theorem fhW.lsw {Y : fhY} {own : Nat} {cc : ByteArray} {nL : Nat} {ret : Option FieldType} {Γ : fhX} (hΓ : fhOk Y own cc nL ret Γ) {pc len td : Nat} {dflt : Int} {ps : Array (Int × Int)} (cs : List (Int32 × Nat)) {lv : List (Nat × Value)} {st : List Value} {σ : fhM} {x : Int32} (hd : fhlk cc pc dflt ps len td cs = true) (kk : fhsw Y Γ lv st σ x td cs) : fhW Y Γ pc lv (.int x :: st) σ := by
  have k1 := fhsw_sel kk
  obtain ⟨⟨l, D, b, cA, X⟩, d, p, e, s, m, args, below, meth, c, r, σe⟩ := Γ
  obtain ⟨hx, hb, -⟩ := hΓ
  obtain ⟨h1, h⟩ := fhand hd
  obtain ⟨h2, h⟩ := fhand h
  obtain ⟨h3, h4⟩ := fhand h
  intro ls H locs hl hP hS
  exact lv_lookup hx hb (of_decide_eq_true h1) h3 rfl (fhlsw (of_decide_eq_true h2) _ cs (of_decide_eq_true h4)) (k1 ls H locs hl hP hS)
/-! what else is known of the start: a link through the nest, the text of WORDS -/
def fhwds : String := "marks guest wears blind to rule fact slip sum top low kinds count number mark rows knows round sees could or and not all min max first last often total most least "
def fhXc (A : Nat → Prop) (s : State) : Prop := va_Nw (.fieldLinkNest RX4 103 RX9 "possible" "LForeheadMarks$Cells;" RX11) s ∧ ∃ (adK adV : Nat → Nat), vk_R RX8 64 fhwds (adK 0) s ∧ vk_S 1 [fhwby.length] [fhwby] adK adV A s s.heap ∧ va_Z "java/lang/String" "COMPACT_STRINGS" "Z" (.int 1) A s s.heap ∧ va_Zq RJ3 "SIOOBE_FORMATTER" "Ljava/util/function/BiFunction;" A s s.heap
def fhEok (Y : fhY) (E : fhE) : Prop := match E with
  | (_, _, b, _, X) => ∀ s, X s → fhXc (fhA b Y.2.2) s
