/-! METHODS AND LINKS, by program -/
def miJ9_max_7cf53 : fhMI := (yJ9_max_7cf53, cJ9_max_7cf53, 2, (some .int))
theorem msJ9_max_7cf53 : fhMs miJ9_max_7cf53 2 := ⟨⟨fhm (in_t (in_1 (List.mem_of_getElem? (i := 36) rfl))) rfl, fhm (in_t (in_1 (List.mem_of_getElem? (i := 3) rfl))) rfl, ⟨by decide +kernel, by decide +kernel⟩, by decide +kernel, by decide⟩, fhm (in_t (in_1 (List.mem_of_getElem? (i := 35) rfl))) rfl⟩
def miJ9_min_7cf53 : fhMI := (yJ9_min_7cf53, cJ9_min_7cf53, 2, (some .int))
theorem msJ9_min_7cf53 : fhMs miJ9_min_7cf53 2 := ⟨⟨fhm (in_t (in_4 (List.mem_of_getElem? (i := 4) rfl))) rfl, fhm (in_t (in_1 (List.mem_of_getElem? (i := 3) rfl))) rfl, ⟨by decide +kernel, by decide +kernel⟩, by decide +kernel, by decide⟩, fhm (in_t (in_4 (List.mem_of_getElem? (i := 3) rfl))) rfl⟩
def miJ9_max_f86c9 : fhMI := (yJ9_max_f86c9, cJ9_max_f86c9, 4, (some .long))
theorem msJ9_max_f86c9 : fhMs miJ9_max_f86c9 2 := ⟨⟨fhm (in_t (in_4 (List.mem_of_getElem? (i := 100) rfl))) rfl, fhm (in_t (in_1 (List.mem_of_getElem? (i := 3) rfl))) rfl, ⟨by decide +kernel, by decide +kernel⟩, by decide +kernel, by decide⟩, fhm (in_t (in_4 (List.mem_of_getElem? (i := 99) rfl))) rfl⟩
def miJ9_min_f86c9 : fhMI := (yJ9_min_f86c9, cJ9_min_f86c9, 4, (some .long))
theorem msJ9_min_f86c9 : fhMs miJ9_min_f86c9 2 := ⟨⟨fhm (in_t (in_4 (List.mem_of_getElem? (i := 97) rfl))) rfl, fhm (in_t (in_1 (List.mem_of_getElem? (i := 3) rfl))) rfl, ⟨by decide +kernel, by decide +kernel⟩, by decide +kernel, by decide⟩, fhm (in_t (in_4 (List.mem_of_getElem? (i := 96) rfl))) rfl⟩
theorem ml_2_7 : Cond.methodLink (fhrx 2) 7 yJ9_max_7cf53 ∈ fhtbl := fhm (in_t (in_1 (List.mem_of_getElem? (i := 34) rfl))) rfl
theorem ml_3_28 : Cond.methodLink (fhrx 3) 28 yJ9_min_7cf53 ∈ fhtbl := fhm (in_t (in_4 (List.mem_of_getElem? (i := 2) rfl))) rfl
theorem ml_10_34 : Cond.methodLink (fhrx 10) 34 yJ9_max_7cf53 ∈ fhtbl := fhm (in_t (in_4 (List.mem_of_getElem? (i := 61) rfl))) rfl
theorem ml_10_40 : Cond.methodLink (fhrx 10) 40 yJ9_min_7cf53 ∈ fhtbl := fhm (in_t (in_4 (List.mem_of_getElem? (i := 62) rfl))) rfl
theorem ml_10_113 : Cond.methodLink (fhrx 10) 113 yJ9_min_f86c9 ∈ fhtbl := fhm (in_t (in_4 (List.mem_of_getElem? (i := 95) rfl))) rfl
theorem ml_10_116 : Cond.methodLink (fhrx 10) 116 yJ9_max_f86c9 ∈ fhtbl := fhm (in_t (in_4 (List.mem_of_getElem? (i := 98) rfl))) rfl
theorem ml_9_67 : Cond.methodLink (fhrx 9) 67 yJ9_min_7cf53 ∈ fhtbl := fhm (in_t (in_4 (List.mem_of_getElem? (i := 121) rfl))) rfl
theorem ml_6_37 : Cond.methodLink (fhrx 6) 37 yJ9_min_7cf53 ∈ fhtbl := fhm (in_t (in_4 (List.mem_of_getElem? (i := 191) rfl))) rfl
theorem ml_0_63 : Cond.methodLink (fhrx 0) 63 yJ9_min_7cf53 ∈ fhtbl := fhm (in_t (in_5 (List.mem_of_getElem? (i := 69) rfl))) rfl
theorem ml_1_95 : Cond.methodLink (fhrx 1) 95 yJ9_min_7cf53 ∈ fhtbl := fhm (in_t (in_5 (List.mem_of_getElem? (i := 136) rfl))) rfl
theorem ml_1_120 : Cond.methodLink (fhrx 1) 120 yJ9_max_7cf53 ∈ fhtbl := fhm (in_t (in_5 (List.mem_of_getElem? (i := 200) rfl))) rfl
theorem ml_11_379 : Cond.methodLink (fhrx 11) 379 yJ9_max_7cf53 ∈ fhtbl := fhm (in_t (in_6 (List.mem_of_getElem? (i := 55) rfl))) rfl
theorem ml_11_384 : Cond.methodLink (fhrx 11) 384 yJ9_min_7cf53 ∈ fhtbl := fhm (in_t (in_6 (List.mem_of_getElem? (i := 56) rfl))) rfl
theorem fhiK_ind {p : Nat → Prop} {t : Nat} (h : fhiK t = true) (h1 : p 6) (h2 : p 16) (h3 : p 28) : p t := by
  rcases fhiK_or h with rfl | rfl | rfl
  · exact h1
  · exact h2
  · exact h3
/-- the machine has entries of its own for Math's members on floats and doubles alone -/
def fhfd : List String := ["(D)D", "(DD)D", "(DDD)D", "(F)F", "(FF)F", "(FFF)F"]
theorem fhmr : (Jvm.natives.all fun r => r.cls != "java/lang/Math" || fhfd.contains r.desc) = true := by decide +kernel
theorem fhmath {x : MethodName} (hc : x.cls = "java/lang/Math") (hd : fhfd.contains x.desc = false) : plainFor x = true := by
  unfold plainFor
  rw [Bool.or_eq_true]
  right
  rw [Option.isNone_iff_eq_none, NativeRow.find?, List.find?_eq_none]
  intro r hr h
  have := List.all_eq_true.mp fhmr r hr
  simp only [Bool.and_eq_true, beq_iff_eq] at h
  rw [h.1.2, h.2, hc, hd] at this
  simp at this
/-- the same, of a class that has entries, a member that has none -/
theorem fhC.ofF {Y : fhY} {E : fhE} {d : Nat} {y : MethodName} {cc : ByteArray} {nL : Nat} {ret : Option FieldType} {av : List Value} {σ : fhM} {r : Option Value} {σ' : fhM} (own : Nat) (ho : y.cls = fhrx own) (hy : plainFor y = true)
    (hn : fhcat av ≤ nL)
    (body : ∀ Γ : fhX, fhOk Y own cc nL ret Γ → fhRet Γ r σ' → fhD Γ = d → fhEn Γ = E → fhW Y Γ 0 (lv_args 0 av) [] σ) : fhC Y E d (y, cc, nL, ret) av σ r σ' := by
  obtain ⟨l, D, b, cA, X⟩ := E
  refine va_MetF (cc := cc) (maxL := nL) (ret := ret) hy rfl ?_
  intro p e s m args below meth c s₁ B hml hv
  obtain ⟨rfl, hP, hK, hX, hXs⟩ := hv
  have hts : ∀ w ∈ fhtbl, w.before (fhcs b av).toArray s = true := fun w h => atoms_spec (ws := .code y cc nL ret :: fhtbl) B.pre w (List.mem_cons_of_mem _ h)
  have hown : s.vm.findClass (fhrx own) = some m.cls := ho ▸ findClass_of_methodNamed B.named
  have hl := lv_entry (fhcs b av) (n := nL) (by rw [fhcat_sl]; exact hn)
  rw [lg_entry_eq]
  generalize (lg_sl (fhcs b av) ++ List.replicate (nL - (lg_sl (fhcs b av)).length) Slot.unset).toArray = ls at hl ⊢
  rw [fhlv b] at hl
  have hw := body ((l, D, b, cA, X), d, p, e, s, m, (fhcs b av).toArray, below, meth, c, r, σ') ⟨B.exec, B.bytes, hml, hown, hts, hK, B.returns, B.notSynchronized, hX, hXs⟩ ⟨rfl, rfl⟩ rfl rfl
  exact hw ls s.heap [] (by rw [hml]; exact hl) hP va_S.rf
theorem T_X8_wordNumber {E : fhE} {d : Nat} (hE : fhEok fhYF E) (hd : 6 ≤ d) (v0 : Int32) (σ : fhM) : fhC fhYF E d miX8_wordNumber [.int v0] σ (some (.int (f_X8_wordNumber v0 σ))) σ := sorry
