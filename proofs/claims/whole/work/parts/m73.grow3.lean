/-! CONSTRUCTORS: the function is sound -/
/-- what is known at a constructor's start -/
def gOk (D : va_G) (b : Nat) (cA : Nat → ClassId) (X : State → Prop) (x : Nat) (p : Program) (s : State) (m : MethodId) (args : Array Value) (meth : Method) (c : Code) : Prop := p.tables.exec = Jvm.exec ∧ c.code = gcd x ∧ c.maxLocals = gnl x ∧ s.vm.findClass (fhrx x) = some m.cls ∧ (∀ w ∈ fhtbl, w.before args s = true) ∧ va_K D vwCl (fhtys cA) s ∧ meth.sig.returnType = none ∧ meth.locks = false ∧ meth.name = "<init>" ∧ b < s.heap.size ∧ x < 13 ∧ X s ∧ fhXs (gAa b) X ∧ (∀ U, X U → ∀ q ∈ gnst, va_Nw (.methodLinkNest (fhrx q.1) q.2.1 (gy q.2.2) RX11) U)
def gMem (D : va_G) (b : Nat) (cA : Nat → ClassId) (s : State) (H : Heap) (locs : List Loc) (w : List gE) (cl : Nat) : Prop := va_P D vwCl (gws b cA w) H ∧ va_S (gAa b) s.heap H locs ∧ b + w.length = s.heap.size + cl
def Y0 : fhY := (fhYF.1, fhYF.2.1, 0)
theorem Y0P : fhPok Y0 fhPo := fhPo_ok rfl
set_option maxRecDepth 100000 in
theorem g_max {E : fhE} {d : Nat} (v0 v1 : Int32) (σ : fhM) : fhC Y0 E d miJ9_max_7cf53 [.int v0, .int v1] σ (some (.int (gmax v0 v1))) σ := by
  refine fhC.ofF (y := yJ9_max_7cf53) (cc := cJ9_max_7cf53) (nL := 2) (ret := (some .int)) 14 rfl (fhmath rfl (by decide +kernel)) (Nat.le_of_ble_eq_true rfl) ?_
  intro Γ hΓ hR hD hEn
  have hv : gmax v0 v1 = if v0 < v1 then v1 else v0 := rfl
  refine fhW.blk Y0P fhLL hΓ [(.iload_n 0, 0), (.iload_n 1, 0)] (pc' := 2) (lv' := [(0, .int v0), (1, .int v1)]) (st' := [.int v1, .int v0]) (σ' := σ) (by decide +kernel) rfl rfl rfl ?_
  refine fhW.i_lt hΓ (tgt := 9) (show fhbk _ _ (.if_icmp .lt (7)) _ = true by decide +kernel) (fun hc => ?_) (fun hc => ?_)
  · rw [hv, if_pos hc] at hR
    refine fhW.blk Y0P fhLL hΓ [(.iload_n 1, 0)] (pc' := 10) (lv' := [(0, .int v0), (1, .int v1)]) (st' := [.int v1]) (σ' := σ) (by decide +kernel) rfl rfl rfl ?_
    exact fhW.iret hΓ (by decide +kernel) hR
  · rw [hv, if_neg hc] at hR
    refine fhW.blk Y0P fhLL hΓ [(.iload_n 0, 0)] (pc' := 6) (lv' := [(0, .int v0), (1, .int v1)]) (st' := [.int v0]) (σ' := σ) (by decide +kernel) rfl rfl rfl ?_
    refine fhW.goto hΓ (off := 4) (tgt := 10) (by decide +kernel) ?_
    exact fhW.iret hΓ (by decide +kernel) hR
