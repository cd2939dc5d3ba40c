/-! THE CONTEXT of a walk, and one instruction as a function -/
abbrev fhE : Type := Launch × va_G × Nat × (Nat → ClassId) × (State → Prop)
/-- what else is known of a state, and stays so as long as nothing outside A changes -/
def fhXs (A : Nat → Prop) (X : State → Prop) : Prop := ∀ s U : State, X s → s.WarmedH U.vm → s.heap.size ≤ U.heap.size → (∀ q : Nat, q < s.heap.size → ¬ A q → U.heap[q]? = s.heap[q]?) → X U
abbrev fhMI : Type := MethodName × ByteArray × Nat × Option FieldType
def fhrm (d : Nat) : Room := { frames := d, cells := 0, slots := 0, locals := 40 * d }
def fhrx (k : Nat) : String := match k with
  | 0 => RX0
  | 1 => RX1
  | 2 => RX2
  | 3 => RX3
  | 4 => RX4
  | 5 => RX5
  | 6 => RX6
  | 7 => RX7
  | 8 => RX8
  | 9 => RX9
  | 10 => RX10
  | 11 => RX11
  | 12 => RX12
  | 13 => RJ6
  | 14 => RJ9
  | _ => RL
def fhQ (Y : fhY) (D : va_G) (b : Nat) (cA : Nat → ClassId) (r : Option Value) (σ' : fhM) : Array Value → State → Outcome → State → Prop := fun _ st oc t => oc = .returned (r.map (fhcv b)) ∧ va_P D vwCl (fhws Y b cA σ') t.heap ∧ va_F (fhA b Y.2.2) st t
/-- a method's contract: called with av at σ it answers r and leaves σ' -/
def fhC (Y : fhY) (E : fhE) (d : Nat) (mi : fhMI) (av : List Value) (σ : fhM) (r : Option Value) (σ' : fhM) : Prop := match E, mi with
  | (l, D, b, cA, X), (y, cc, nL, ret) => Met l y (.code y cc nL ret :: fhtbl) (fhrm d) (va_Pc (fhcs b av) (fun U => va_P D vwCl (fhws Y b cA σ) U.heap ∧ va_K D vwCl (fhtys cA) U ∧ X U ∧ fhXs (fhA b Y.2.2) X)) (fhQ Y D b cA r σ') 0 0 (fhA b Y.2.2)
abbrev fhX : Type := fhE × Nat × Program × Env × State × MethodId × Array Value × List Frame × Method × Code × Option Value × fhM
/-- the walk at pc with locals lv, stack st, memory σ comes to its due end -/
def fhW (Y : fhY) (Γ : fhX) (pc : Nat) (lv : List (Nat × Value)) (st : List Value) (σ : fhM) : Prop := match Γ with
  | ((l, D, b, cA, _), d, p, e, s, m, args, below, meth, c, r, σ') => ∀ (ls : Array Slot) (H : Heap) (locs : List Loc), lv_has ls c.maxLocals (fhcl b lv) → va_P D vwCl (fhws Y b cA σ) H → va_S (fhA b Y.2.2) s.heap H locs →
    W p l e (fhrm d) s m args below meth c H locs 0 0 (MQ below (fhQ Y D b cA r σ') args s 0 0 (fhA b Y.2.2)) (F0 m pc ls (fhcs b st))
def fhOk (Y : fhY) (own : Nat) (cc : ByteArray) (nL : Nat) (ret : Option FieldType) (Γ : fhX) : Prop := match Γ with
  | ((_, D, b, cA, X), _, p, _, s, m, args, _, meth, c, _, _) => p.tables.exec = Jvm.exec ∧ c.code = cc ∧ c.maxLocals = nL ∧ s.vm.findClass (fhrx own) = some m.cls ∧ (∀ w ∈ fhtbl, w.before args s = true) ∧ va_K D vwCl (fhtys cA) s ∧ meth.sig.returnType = ret ∧ meth.locks = false ∧ X s ∧ fhXs (fhA b Y.2.2) X
/-- what the contract's answer and memory are -/
def fhRet (Γ : fhX) (r : Option Value) (σ' : fhM) : Prop := match Γ with
  | (_, _, _, _, _, _, _, _, _, _, r0, σ0) => r0 = r ∧ σ0 = σ'
def fhD (Γ : fhX) : Nat := Γ.2.1
def fhEn (Γ : fhX) : fhE := Γ.1
def fhcat : List Value → Nat
  | [] => 0
  | v :: vs => v.category + fhcat vs
theorem fhcat_sl (b : Nat) (av : List Value) : (lg_sl (fhcs b av)).length = fhcat av := by
  induction av with
  | nil => rfl
  | cons v vs ih =>
    have e : lg_sl (fhcs b (v :: vs)) = (if (fhcv b v).category = 2 then [.val (fhcv b v), .second] else [.val (fhcv b v)]) ++ lg_sl (fhcs b vs) := rfl
    rw [e, List.length_append, ih, fhcv_cat]
    rcases lv_cat v with h | h <;> simp [h, fhcat]
theorem fhlv (b : Nat) (av : List Value) (i : Nat) : lv_args i (fhcs b av) = fhcl b (lv_args i av) := by
  induction av generalizing i with
  | nil => rfl
  | cons v vs ih =>
    show (i, fhcv b v) :: lv_args (if (fhcv b v).category = 2 then i + 2 else i + 1) (fhcs b vs) = _
    rw [ih, fhcv_cat]
    rfl
/-- a contract out of a walk from its entry -/
theorem fhC.of {Y : fhY} {E : fhE} {d : Nat} {y : MethodName} {cc : ByteArray} {nL : Nat} {ret : Option FieldType} {av : List Value} {σ : fhM} {r : Option Value} {σ' : fhM} (own : Nat) (ho : y.cls = fhrx own) (hy : plainName y.cls = true)
    (hn : fhcat av ≤ nL)
    (body : ∀ Γ : fhX, fhOk Y own cc nL ret Γ → fhRet Γ r σ' → fhD Γ = d → fhEn Γ = E → fhW Y Γ 0 (lv_args 0 av) [] σ) : fhC Y E d (y, cc, nL, ret) av σ r σ' := by
  obtain ⟨l, D, b, cA, X⟩ := E
  refine Met.ofW (cc := cc) (maxL := nL) (ret := ret) hy rfl ?_
  intro p e s m args below meth c s₁ B hml hv
  obtain ⟨rfl, hP, hK, hX, hXs⟩ := hv
  have hts : ∀ w ∈ fhtbl, w.before (fhcs b av).toArray s = true := fun w h => atoms_spec (ws := .code y cc nL ret :: fhtbl) B.pre w (List.mem_cons_of_mem _ h)
  have hown : s.vm.findClass (fhrx own) = some m.cls := ho ▸ findClass_of_methodNamed B.named
  have hl := lv_entry (fhcs b av) (n := nL) (by rw [fhcat_sl]; exact hn)
  rw [lg_entry_eq]
  generalize (lg_sl (fhcs b av) ++ List.replicate (nL - (lg_sl (fhcs b av)).length) Slot.unset).toArray = ls at hl ⊢
  rw [fhlv b] at hl
  have hw := body ((l, D, b, cA, X), d, p, e, s, m, (fhcs b av).toArray, below, meth, c, r, σ') ⟨B.exec, B.bytes, hml, hown, hts, hK, B.returns, B.notSynchronized, hX, hXs⟩ ⟨rfl, rfl⟩ rfl rfl
  exact hw ls s.heap [] (by rw [hml]; exact hl) hP va_S.rf
