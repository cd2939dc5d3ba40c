/-! METHODS AND LINKS, by program -/
def miJ9_max_7cf53 : fhMI := (yJ9_max_7cf53, cJ9_max_7cf53, 2, (some .int))
theorem msJ9_max_7cf53 : fhMs miJ9_max_7cf53 2 := ⟨⟨fhm (in_t (in_1 (List.mem_of_getElem? (i := 36) rfl))) rfl, fhm (in_t (in_1 (List.mem_of_getElem? (i := 3) rfl))) rfl, ⟨by decide +kernel, by decide +kernel⟩, by decide +kernel, by decide⟩, fhm (in_t (in_1 (List.mem_of_getElem? (i := 35) rfl))) rfl⟩
def miJ9_min_7cf53 : fhMI := (yJ9_min_7cf53, cJ9_min_7cf53, 2, (some .int))
theorem msJ9_min_7cf53 : fhMs miJ9_min_7cf53 2 := ⟨⟨fhm (in_t (in_4 (List.mem_of_getElem? (i := 7) rfl))) rfl, fhm (in_t (in_1 (List.mem_of_getElem? (i := 3) rfl))) rfl, ⟨by decide +kernel, by decide +kernel⟩, by decide +kernel, by decide⟩, fhm (in_t (in_4 (List.mem_of_getElem? (i := 6) rfl))) rfl⟩
def miJ9_max_f86c9 : fhMI := (yJ9_max_f86c9, cJ9_max_f86c9, 4, (some .long))
theorem msJ9_max_f86c9 : fhMs miJ9_max_f86c9 2 := ⟨⟨fhm (in_t (in_4 (List.mem_of_getElem? (i := 111) rfl))) rfl, fhm (in_t (in_1 (List.mem_of_getElem? (i := 3) rfl))) rfl, ⟨by decide +kernel, by decide +kernel⟩, by decide +kernel, by decide⟩, fhm (in_t (in_4 (List.mem_of_getElem? (i := 110) rfl))) rfl⟩
def miJ9_min_f86c9 : fhMI := (yJ9_min_f86c9, cJ9_min_f86c9, 4, (some .long))
theorem msJ9_min_f86c9 : fhMs miJ9_min_f86c9 2 := ⟨⟨fhm (in_t (in_4 (List.mem_of_getElem? (i := 108) rfl))) rfl, fhm (in_t (in_1 (List.mem_of_getElem? (i := 3) rfl))) rfl, ⟨by decide +kernel, by decide +kernel⟩, by decide +kernel, by decide⟩, fhm (in_t (in_4 (List.mem_of_getElem? (i := 107) rfl))) rfl⟩
theorem ml_2_7 : Cond.methodLink (fhrx 2) 7 yJ9_max_7cf53 ∈ fhtbl := fhm (in_t (in_1 (List.mem_of_getElem? (i := 34) rfl))) rfl
theorem ml_3_28 : Cond.methodLink (fhrx 3) 28 yJ9_min_7cf53 ∈ fhtbl := fhm (in_t (in_4 (List.mem_of_getElem? (i := 5) rfl))) rfl
theorem ml_10_34 : Cond.methodLink (fhrx 10) 34 yJ9_max_7cf53 ∈ fhtbl := fhm (in_t (in_4 (List.mem_of_getElem? (i := 72) rfl))) rfl
theorem ml_10_40 : Cond.methodLink (fhrx 10) 40 yJ9_min_7cf53 ∈ fhtbl := fhm (in_t (in_4 (List.mem_of_getElem? (i := 73) rfl))) rfl
theorem ml_10_113 : Cond.methodLink (fhrx 10) 113 yJ9_min_f86c9 ∈ fhtbl := fhm (in_t (in_4 (List.mem_of_getElem? (i := 106) rfl))) rfl
theorem ml_10_116 : Cond.methodLink (fhrx 10) 116 yJ9_max_f86c9 ∈ fhtbl := fhm (in_t (in_4 (List.mem_of_getElem? (i := 109) rfl))) rfl
theorem ml_9_67 : Cond.methodLink (fhrx 9) 67 yJ9_min_7cf53 ∈ fhtbl := fhm (in_t (in_4 (List.mem_of_getElem? (i := 132) rfl))) rfl
theorem ml_6_37 : Cond.methodLink (fhrx 6) 37 yJ9_min_7cf53 ∈ fhtbl := fhm (in_t (in_4 (List.mem_of_getElem? (i := 202) rfl))) rfl
theorem ml_0_63 : Cond.methodLink (fhrx 0) 63 yJ9_min_7cf53 ∈ fhtbl := fhm (in_t (in_5 (List.mem_of_getElem? (i := 80) rfl))) rfl
theorem ml_1_95 : Cond.methodLink (fhrx 1) 95 yJ9_min_7cf53 ∈ fhtbl := fhm (in_t (in_5 (List.mem_of_getElem? (i := 147) rfl))) rfl
theorem ml_1_120 : Cond.methodLink (fhrx 1) 120 yJ9_max_7cf53 ∈ fhtbl := fhm (in_t (in_5 (List.mem_of_getElem? (i := 211) rfl))) rfl
theorem ml_11_387 : Cond.methodLink (fhrx 11) 387 yJ9_max_7cf53 ∈ fhtbl := fhm (in_t (in_6 (List.mem_of_getElem? (i := 68) rfl))) rfl
theorem ml_11_392 : Cond.methodLink (fhrx 11) 392 yJ9_min_7cf53 ∈ fhtbl := fhm (in_t (in_6 (List.mem_of_getElem? (i := 69) rfl))) rfl
theorem fhiK_ind {p : Nat → Prop} {t : Nat} (h : fhiK t = true) (h1 : p 6) (h2 : p 16) (h3 : p 28) : p t := by
  rcases fhiK_or h with rfl | rfl | rfl
  · exact h1
  · exact h2
  · exact h3
/-- the machine has entries of its own for Math's members on floats and doubles alone -/
def fhfd : List String := ["(D)D", "(DD)D", "(DDD)D", "(F)F", "(FF)F", "(FFF)F"]
theorem fhmr : (Jvm.natives.all fun r => r.cls != "java/lang/Math" || fhfd.contains r.desc) = true := by decide +kernel
theorem fhmath {x : MethodName} (hc : x.cls = "java/lang/Math") (hd : fhfd.contains x.desc = false) : plainFor x = true := by
  unfold plainFor
  rw [Bool.or_eq_true]
  right
  rw [Option.isNone_iff_eq_none, NativeRow.find?, List.find?_eq_none]
  intro r hr h
  have := List.all_eq_true.mp fhmr r hr
  simp only [Bool.and_eq_true, beq_iff_eq] at h
  rw [h.1.2, h.2, hc, hd] at this
  simp at this
/-- the same, of a class that has entries, a member that has none -/
theorem fhC.ofF {Y : fhY} {E : fhE} {d : Nat} {y : MethodName} {cc : ByteArray} {nL : Nat} {ret : Option FieldType} {av : List Value} {σ : fhM} {r : Option Value} {σ' : fhM} (own : Nat) (ho : y.cls = fhrx own) (hy : plainFor y = true)
    (hn : fhcat av ≤ nL)
    (body : ∀ Γ : fhX, fhOk Y own cc nL ret Γ → fhRet Γ r σ' → fhD Γ = d → fhEn Γ = E → fhW Y Γ 0 (lv_args 0 av) [] σ) : fhC Y E d (y, cc, nL, ret) av σ r σ' := by
  obtain ⟨l, D, b, cA, X⟩ := E
  refine va_MetF (cc := cc) (maxL := nL) (ret := ret) hy rfl ?_
  intro p e s m args below meth c s₁ B hml hv
  obtain ⟨rfl, hP, hK, hX, hXs⟩ := hv
  have hts : ∀ w ∈ fhtbl, w.before (fhcs b av).toArray s = true := fun w h => atoms_spec (ws := .code y cc nL ret :: fhtbl) B.pre w (List.mem_cons_of_mem _ h)
  have hown : s.vm.findClass (fhrx own) = some m.cls := ho ▸ findClass_of_methodNamed B.named
  have hl := lv_entry (fhcs b av) (n := nL) (by rw [fhcat_sl]; exact hn)
  rw [lg_entry_eq]
  generalize (lg_sl (fhcs b av) ++ List.replicate (nL - (lg_sl (fhcs b av)).length) Slot.unset).toArray = ls at hl ⊢
  rw [fhlv b] at hl
  have hw := body ((l, D, b, cA, X), d, p, e, s, m, (fhcs b av).toArray, below, meth, c, r, σ') ⟨B.exec, B.bytes, hml, hown, hts, hK, B.returns, B.notSynchronized, hX, hXs⟩ ⟨rfl, rfl⟩ rfl rfl
  exact hw ls s.heap [] (by rw [hml]; exact hl) hP va_S.rf
/-! THE JDK on the constant WORDS: contracts out of any place, the heap stays -/
def jwQ (r : Option Value) : Array Value → State → Outcome → State → Prop := fun _ st oc t => oc = .returned r ∧ t.heap = st.heap
def jwN : Nat → Prop := fun _ => False
def jwB (adK adV : Nat → Nat) (U : State) : Prop := vk_S 1 [fhwby.length] [fhwby] adK adV jwN U U.heap ∧ va_Z "java/lang/String" "COMPACT_STRINGS" "Z" (.int 1) jwN U U.heap ∧ va_Zq RJ3 "SIOOBE_FORMATTER" "Ljava/util/function/BiFunction;" jwN U U.heap
theorem jwB_m {adK adV : Nat → Nat} {U V : State} (h : jwB adK adV U) (hA : U.vm.Alike V.vm) (hh : V.heap = U.heap) : jwB adK adV V := by
  obtain ⟨h1, h2, h3⟩ := h
  unfold jwB
  rw [hh]
  exact ⟨vk_S.moved hA h1, va_Z.moved hA h2, va_Zq.moved hA h3⟩
def jwC (l : Launch) (d : Nat) (mi : fhMI) (av : List Value) (adK adV : Nat → Nat) (r : Option Value) : Prop := match mi with
  | (y, cc, nL, ret) => Met l y (.code y cc nL ret :: fhtbl) (fhrm d) (va_Pc av (jwB adK adV)) (jwQ r) 0 0 jwN
theorem jwC.of {l : Launch} {d : Nat} {y : MethodName} {cc : ByteArray} {nL : Nat} {ret : Option FieldType} {av : List Value} {adK adV : Nat → Nat} {r : Option Value} (own : String) (ho : y.cls = own) (hy : plainFor y = true) (hn : (lg_sl av).length ≤ nL)
    (body : ∀ (p : Program) (e : Env) (s : State) (m : MethodId) (args : Array Value) (below : List Frame) (meth : Method) (c : Code) (ls : Array Slot), p.tables.exec = Jvm.exec → c.code = cc → c.maxLocals = nL → s.vm.findClass own = some m.cls → (∀ w ∈ fhtbl, w.before args s = true) → meth.sig.returnType = ret → meth.locks = false → jwB adK adV s → lv_has ls nL (lv_args 0 av) → W p l e (fhrm d) s m args below meth c s.heap [] 0 0 (MQ below (jwQ r) args s 0 0 jwN) (F0 m 0 ls [])) : jwC l d (y, cc, nL, ret) av adK adV r := by
  refine va_MetF (cc := cc) (maxL := nL) (ret := ret) hy rfl ?_
  intro p e s m args below meth c s₁ B hml hv
  obtain ⟨rfl, hB⟩ := hv
  have hts : ∀ w ∈ fhtbl, w.before av.toArray s = true := fun w h => atoms_spec (ws := .code y cc nL ret :: fhtbl) B.pre w (List.mem_cons_of_mem _ h)
  have hown : s.vm.findClass own = some m.cls := ho ▸ findClass_of_methodNamed B.named
  have hl := lv_entry av (n := nL) hn
  rw [lg_entry_eq]
  generalize (lg_sl av ++ List.replicate (nL - (lg_sl av).length) Slot.unset).toArray = ls at hl ⊢
  exact body p e s m av.toArray below meth c ls B.exec B.bytes hml hown hts B.returns B.notSynchronized hB hl
theorem jwcB {R : Room} {s : State} {args : Array Value} {own : String} {idx n d d' nL : Nat} {y : MethodName} {cc : ByteArray} {ret : Option FieldType} (hts : ∀ w ∈ fhtbl, w.before args s = true) (hM : fhMk (y, cc, nL, ret) n) (hl : Cond.methodLink own idx y ∈ fhtbl) (hR : R = fhrm d) (hd : d' + 1 ≤ d) :
    CallB R s args own idx y cc nL ret (.code y cc nL ret :: fhtbl) (fhrm d') 0 0 n := by
  obtain ⟨h1, h2, h3, h4, h5⟩ := hM
  subst hR
  refine callB_of n hts (fun w hw => ?_) rfl rfl rfl (hts _ h2) (hts _ hl) ⟨h3.1, h3.2, h4⟩ ⟨?_, ?_⟩
  · rcases List.mem_cons.mp hw with rfl | hw
    · exact fhgood _ h1
    · exact fhgood w hw
  · exact hd
  · show 8 + (nL + 11) + 40 * d' ≤ 40 * d
    omega
section
variable {l : Launch} {p : Program} {e : Env} {s : State} {m : MethodId} {args : Array Value} {below : List Frame} {meth : Method} {c : Code} {H : Heap} {locs : List Loc} {Q : State → Prop} {pc : Nat} {ls : Array Slot} {R : Room} {adK adV : Nat → Nat} {d : Nat}
theorem jwgo {rest st0 : List Value} {r : Option Value} {a : Array Value} (hr : va_Run p l e R s m args below meth c H locs 0 0 0 0 (F0 m pc ls st0) rest (jwQ r a) jwN) (kk : W p l e R s m args below meth c H locs 0 0 Q (F0 m (pc + 3) ls (r.toList ++ rest))) : W p l e R s m args below meth c H locs 0 0 Q (F0 m pc ls st0) := by
  intro T hT X
  obtain ⟨v, st₀, t, T', L, h0, X', hL, e1, e2, ⟨hv, hh⟩, st⟩ := hr T hT X
  cases hv
  obtain ⟨t2, a1, b1⟩ := kk T' (by rw [e1, hh, h0]) (Stand.forget X' (fun q h => (hL q h).elim))
  exact ⟨t2, st t2 a1, b1⟩
theorem jwcalls {d' idx n nL : Nat} {own : String} {cc : ByteArray} {mi : fhMI} {av rest : List Value} {r : Option Value} (hx : p.tables.exec = Jvm.exec) (hb : c.code = cc) (hml : c.maxLocals = nL) (hown : s.vm.findClass own = some m.cls) (hts : ∀ w ∈ fhtbl, w.before args s = true)
    (hM : fhMs mi n) (hlink : Cond.methodLink own idx mi.1 ∈ fhtbl) (hC : jwC l d' mi av adK adV r) (hd' : d' + 1 ≤ d) (hB : ∀ U : State, U.heap = H → s.WarmedH U.vm → jwB adK adV U) (hl : ls.size = nL) (hd : decode cc pc = .ok (.invokestatic idx, 3)) (hcat : (rest.map fun v => v.category).sum ≤ 8) (hn : av.length = n)
    (kk : W p l e (fhrm d) s m args below meth c H locs 0 0 Q (F0 m (pc + 3) ls (r.toList ++ rest))) : W p l e (fhrm d) s m args below meth c H locs 0 0 Q (F0 m pc ls (av.reverse ++ rest)) := by
  obtain ⟨y, cy, ny, ry⟩ := mi
  obtain ⟨hMk, hMs⟩ := hM
  refine jwgo (va_runS (As := av) (rest := rest) (n := n) ⟨hx, hb, hml, hown, hts⟩ hC ⟨jwcB hts hMk hlink rfl hd', hts _ hMs⟩ ⟨fun a U g mk q => ⟨q.1, jwB_m (U := U) (V := U.calling g mk a) q.2 (Vm.Alike.refl U.vm) rfl⟩, fun U hU hW => ⟨rfl, hB U hU hW⟩⟩ rfl hn hl rfl ?_ hd ⟨Nat.zero_le _, Nat.zero_le _⟩) kk
  show 2 * 0 + _ ≤ 8
  omega
theorem jwcallv {d' idx n nL q : Nat} {own : String} {cc : ByteArray} {mi : fhMI} {av rest : List Value} {r : Option Value} (hx : p.tables.exec = Jvm.exec) (hb : c.code = cc) (hml : c.maxLocals = nL) (hown : s.vm.findClass own = some m.cls) (hts : ∀ w ∈ fhtbl, w.before args s = true)
    (hM : fhMv mi n) (hlink : Cond.methodLink own idx mi.1 ∈ fhtbl) (hC : jwC l d' mi (.ref q :: av) adK adV r) (hd' : d' + 1 ≤ d) (hB : ∀ U : State, U.heap = H → s.WarmedH U.vm → jwB adK adV U) (hrc : ∃ cell : Cell, H[q]? = some cell ∧ cell.vm.isStatics = false ∧ s.vm.findClass mi.1.cls = some cell.cls) (hl : ls.size = nL) (hd : decode cc pc = .ok (.invokevirtual idx, 3)) (hcat : (rest.map fun v => v.category).sum ≤ 8) (hn : av.length = n)
    (kk : W p l e (fhrm d) s m args below meth c H locs 0 0 Q (F0 m (pc + 3) ls (r.toList ++ rest))) : W p l e (fhrm d) s m args below meth c H locs 0 0 Q (F0 m pc ls (av.reverse ++ .ref q :: rest)) := by
  obtain ⟨y, cy, ny, ry⟩ := mi
  obtain ⟨hMk, hMi, hMs⟩ := hM
  refine jwgo (va_runV (As := av) (rest := rest) (n := n) ⟨hx, hb, hml, hown, hts⟩ hC ⟨jwcB hts hMk hlink rfl hd', hts _ hMi, hts _ hMs⟩ ⟨fun a U g mk q => ⟨q.1, jwB_m (U := U) (V := U.calling g mk a) q.2 (Vm.Alike.refl U.vm) rfl⟩, hrc, fun U hU hW => ⟨rfl, hB U hU hW⟩⟩ rfl hn hl rfl ?_ hd ⟨Nat.zero_le _, Nat.zero_le _⟩) kk
  show 2 * 0 + _ ≤ 8
  omega
end
def jmLen : fhMI := (yJ0_length_8abf5, cJ0_length_8abf5, 1, (some .int))
theorem jvLen : fhMv jmLen 0 := ⟨⟨fhm (in_t (in_3 (List.mem_of_getElem? (i := 94) rfl))) rfl, fhm (in_t (in_1 (List.mem_of_getElem? (i := 15) rfl))) rfl, ⟨by decide +kernel, by decide +kernel⟩, by decide +kernel, by decide⟩, fhm (in_t (in_3 (List.mem_of_getElem? (i := 92) rfl))) rfl, fhm (in_t (in_3 (List.mem_of_getElem? (i := 93) rfl))) rfl⟩
def jmCod : fhMI := (yJ0_coder_7d493, cJ0_coder_7d493, 1, (some .byte))
theorem jvCod : fhMv jmCod 0 := ⟨⟨fhm (in_t (in_3 (List.mem_of_getElem? (i := 98) rfl))) rfl, fhm (in_t (in_1 (List.mem_of_getElem? (i := 15) rfl))) rfl, ⟨by decide +kernel, by decide +kernel⟩, by decide +kernel, by decide⟩, fhm (in_t (in_3 (List.mem_of_getElem? (i := 96) rfl))) rfl, fhm (in_t (in_3 (List.mem_of_getElem? (i := 97) rfl))) rfl⟩
def jmChr : fhMI := (yJ0_charAt_5068e, cJ0_charAt_5068e, 2, (some .char))
theorem jvChr : fhMv jmChr 1 := ⟨⟨fhm (in_t (in_3 (List.mem_of_getElem? (i := 104) rfl))) rfl, fhm (in_t (in_1 (List.mem_of_getElem? (i := 15) rfl))) rfl, ⟨by decide +kernel, by decide +kernel⟩, by decide +kernel, by decide⟩, fhm (in_t (in_3 (List.mem_of_getElem? (i := 102) rfl))) rfl, fhm (in_t (in_3 (List.mem_of_getElem? (i := 103) rfl))) rfl⟩
def jmLat : fhMI := (yJ0_isLatin1_aae02, cJ0_isLatin1_aae02, 1, (some .boolean))
theorem jvLat : fhMv jmLat 0 := ⟨⟨fhm (in_t (in_3 (List.mem_of_getElem? (i := 108) rfl))) rfl, fhm (in_t (in_1 (List.mem_of_getElem? (i := 15) rfl))) rfl, ⟨by decide +kernel, by decide +kernel⟩, by decide +kernel, by decide⟩, fhm (in_t (in_3 (List.mem_of_getElem? (i := 106) rfl))) rfl, fhm (in_t (in_3 (List.mem_of_getElem? (i := 107) rfl))) rfl⟩
def jmLch : fhMI := (yJ1_charAt_3b067, cJ1_charAt_3b067, 2, (some .char))
theorem jvLch : fhMs jmLch 2 := ⟨⟨fhm (in_t (in_3 (List.mem_of_getElem? (i := 111) rfl))) rfl, fhm (in_t (in_1 (List.mem_of_getElem? (i := 16) rfl))) rfl, ⟨by decide +kernel, by decide +kernel⟩, by decide +kernel, by decide⟩, fhm (in_t (in_3 (List.mem_of_getElem? (i := 110) rfl))) rfl⟩
def jmChk : fhMI := (yJ0_checkIndex_df160, cJ0_checkIndex_df160, 2, none)
theorem jvChk : fhMs jmChk 2 := ⟨⟨fhm (in_t (in_3 (List.mem_of_getElem? (i := 114) rfl))) rfl, fhm (in_t (in_1 (List.mem_of_getElem? (i := 15) rfl))) rfl, ⟨by decide +kernel, by decide +kernel⟩, by decide +kernel, by decide⟩, fhm (in_t (in_3 (List.mem_of_getElem? (i := 113) rfl))) rfl⟩
def jmPre : fhMI := (yJ3_checkIndex_8e157, cJ3_checkIndex_8e157, 3, (some .int))
theorem jvPre : fhMs jmPre 3 := ⟨⟨fhm (in_t (in_3 (List.mem_of_getElem? (i := 119) rfl))) rfl, fhm (in_t (in_1 (List.mem_of_getElem? (i := 17) rfl))) rfl, ⟨by decide +kernel, by decide +kernel⟩, by decide +kernel, by decide⟩, fhm (in_t (in_3 (List.mem_of_getElem? (i := 118) rfl))) rfl⟩
theorem jl66 : Cond.methodLink RX8 66 yJ0_length_8abf5 ∈ fhtbl := fhm (in_t (in_3 (List.mem_of_getElem? (i := 91) rfl))) rfl
theorem jl71 : Cond.methodLink RX8 71 yJ0_charAt_5068e ∈ fhtbl := fhm (in_t (in_3 (List.mem_of_getElem? (i := 101) rfl))) rfl
theorem jl335 : Cond.methodLink RJ0 335 yJ0_coder_7d493 ∈ fhtbl := fhm (in_t (in_3 (List.mem_of_getElem? (i := 95) rfl))) rfl
theorem jl492 : Cond.methodLink RJ0 492 yJ0_isLatin1_aae02 ∈ fhtbl := fhm (in_t (in_3 (List.mem_of_getElem? (i := 105) rfl))) rfl
theorem jl495 : Cond.methodLink RJ0 495 yJ1_charAt_3b067 ∈ fhtbl := fhm (in_t (in_3 (List.mem_of_getElem? (i := 109) rfl))) rfl
theorem jl9 : Cond.methodLink RJ1 9 yJ0_checkIndex_df160 ∈ fhtbl := fhm (in_t (in_3 (List.mem_of_getElem? (i := 112) rfl))) rfl
theorem jl1059 : Cond.methodLink RJ0 1059 yJ3_checkIndex_8e157 ∈ fhtbl := fhm (in_t (in_3 (List.mem_of_getElem? (i := 117) rfl))) rfl
theorem jf38 : Cond.fieldLink RJ0 38 RJ0 "COMPACT_STRINGS" "Z" ∈ fhtbl := fhm (in_t (in_3 (List.mem_of_getElem? (i := 99) rfl))) rfl
theorem jf1053 : Cond.fieldLink RJ0 1053 RJ3 "SIOOBE_FORMATTER" "Ljava/util/function/BiFunction;" ∈ fhtbl := fhm (in_t (in_3 (List.mem_of_getElem? (i := 115) rfl))) rfl
theorem jf9 : Cond.fieldLink RJ0 9 RJ0 "value" "[B" ∈ fhtbl := fhm (in_t (in_10 (List.mem_of_getElem? (i := 72) rfl))) rfl
theorem jf15 : Cond.fieldLink RJ0 15 RJ0 "coder" "B" ∈ fhtbl := fhm (in_t (in_10 (List.mem_of_getElem? (i := 73) rfl))) rfl
theorem jwlen : fhwby.length = 163 := by decide +kernel
theorem jw_c : ∀ k, k < 163 → (((fhwby.getD k 0) &&& 255).toUInt32 % 65536).toInt32 = fhwby.getD k 0 := by decide +kernel
theorem jw_n {k : Nat} (h : k < 163) : narrow .char (.int (fhwby.getD k 0)) = .int (fhwby.getD k 0) := by
  rw [← jw_c k h]
  exact pk_nc _
theorem jtPre {l : Launch} {d : Nat} {adK adV : Nat → Nat} {i n : Int32} {v : Value} (hn : (lg_sl [.int i, .int n, v]).length ≤ 3) (h0 : ¬ i < 0) (h1 : i < n) : jwC l d jmPre [.int i, .int n, v] adK adV (some (.int i)) := by
  refine jwC.of (y := yJ3_checkIndex_8e157) (cc := cJ3_checkIndex_8e157) (nL := 3) (ret := (some .int)) RJ3 rfl (by decide +kernel) hn ?_
  intro p e s m args below meth c ls hx hb hml hown hts hrt hlk hB hl
  have hl : lv_has ls 3 [(0, .int i), (1, .int n), (2, v)] := hl
  refine lv_iload_n hx hb (show decode cJ3_checkIndex_8e157 0 = .ok (.iload_n 0, 1) by decide +kernel) rfl (lv_at hl 0 rfl) ?_
  refine lv_if_lt (off := 8) (tgt := 9) hx hb (show decode cJ3_checkIndex_8e157 1 = .ok (.ifCond .lt 8, 3) by decide +kernel) (by decide) (fun h => absurd h h0) (fun _ => ?_)
  refine lv_iload_n hx hb (show decode cJ3_checkIndex_8e157 4 = .ok (.iload_n 0, 1) by decide +kernel) rfl (lv_at hl 0 rfl) ?_
  refine lv_iload_n hx hb (show decode cJ3_checkIndex_8e157 5 = .ok (.iload_n 1, 1) by decide +kernel) rfl (lv_at hl 1 rfl) ?_
  refine lv_icmp_lt (off := 10) (tgt := 16) hx hb (show decode cJ3_checkIndex_8e157 6 = .ok (.if_icmp .lt 10, 3) by decide +kernel) (by decide) (fun _ => ?_) (fun h => absurd h1 h)
  refine lv_iload_n hx hb (show decode cJ3_checkIndex_8e157 16 = .ok (.iload_n 0, 1) by decide +kernel) rfl (lv_at hl 0 rfl) ?_
  exact W.iret hx hb hrt (fun t ht hW => ⟨rfl, ht⟩) (fun q h => by cases h) (show decode cJ3_checkIndex_8e157 17 = .ok (.ireturn, 1) by decide +kernel) hlk
theorem jtChk {l : Launch} {d : Nat} {adK adV : Nat → Nat} {i n : Int32} (hd : 1 ≤ d) (h0 : ¬ i < 0) (h1 : i < n) : jwC l d jmChk [.int i, .int n] adK adV none := by
  refine jwC.of (y := yJ0_checkIndex_df160) (cc := cJ0_checkIndex_df160) (nL := 2) (ret := none) RJ0 rfl (by decide +kernel) (Nat.le_refl 2) ?_
  intro p e s m args below meth c ls hx hb hml hown hts hrt hlk hB hl
  have hl : lv_has ls 2 [(0, .int i), (1, .int n)] := hl
  have hv : ∃ v : Value, (lg_sl [.int i, .int n, v]).length ≤ 3 ∧ va_Z RJ3 "SIOOBE_FORMATTER" "Ljava/util/function/BiFunction;" v jwN s s.heap := by
    rcases hB.2.2 with h | ⟨t, h⟩
    · exact ⟨.null, Nat.le_refl 3, h⟩
    · exact ⟨.ref t, Nat.le_refl 3, h⟩
  obtain ⟨v, hv, hz⟩ := hv
  refine lv_iload_n hx hb (show decode cJ0_checkIndex_df160 0 = .ok (.iload_n 0, 1) by decide +kernel) rfl (lv_at hl 0 rfl) ?_
  refine lv_iload_n hx hb (show decode cJ0_checkIndex_df160 1 = .ok (.iload_n 1, 1) by decide +kernel) rfl (lv_at hl 1 rfl) ?_
  refine va_gets hx hb hz va_S.rf hown (hts _ jf1053) (fun _ h => h) (show decode cJ0_checkIndex_df160 2 = .ok (.getstatic 1053, 3) by decide +kernel) ?_
  refine jwcalls (d := d) (d' := d - 1) (av := [.int i, .int n, v]) (rest := []) (r := some (.int i)) hx hb hml hown hts jvPre jl1059 (jtPre hv h0 h1) (by omega) (fun U hU hW => jwB_m hB hW.alike hU) hl.1 (show decode cJ0_checkIndex_df160 5 = .ok (.invokestatic 1059, 3) by decide +kernel) (Nat.zero_le 8) rfl ?_
  refine lv_pop (va := .int i) hx hb (show decode cJ0_checkIndex_df160 8 = .ok (.pop, 1) by decide +kernel) rfl ?_
  exact W.vret hx hb hrt (fun t ht hW => ⟨rfl, ht⟩) (fun q h => by cases h) (show decode cJ0_checkIndex_df160 9 = .ok (.return_, 1) by decide +kernel) hlk
set_option maxRecDepth 100000 in
theorem jtLch {l : Launch} {d : Nat} {adK adV : Nat → Nat} {k : Nat} (hd : 2 ≤ d) (hk : k < 163) : jwC l d jmLch [.ref (adV 0), .int (nI k)] adK adV (some (.int (fhwby.getD k 0))) := by
  refine jwC.of (y := yJ1_charAt_3b067) (cc := cJ1_charAt_3b067) (nL := 2) (ret := (some .char)) RJ1 rfl (by decide +kernel) (Nat.le_refl 2) ?_
  intro p e s m args below meth c ls hx hb hml hown hts hrt hlk hB hl
  have hl : lv_has ls 2 [(0, .ref (adV 0)), (1, .int (nI k))] := hl
  obtain ⟨-, -, -, hT⟩ := hB.1.1 0 (by decide)
  refine lv_iload_n hx hb (show decode cJ1_charAt_3b067 0 = .ok (.iload_n 1, 1) by decide +kernel) rfl (lv_at hl 1 rfl) ?_
  refine lv_aload_n hx hb (show decode cJ1_charAt_3b067 1 = .ok (.aload_n 0, 1) by decide +kernel) rfl (lv_at hl 0 rfl) ?_
  refine va_tlen hx hb hT va_S.rf (v := nI 163) rfl (show decode cJ1_charAt_3b067 2 = .ok (.arraylength, 1) by decide +kernel) ?_
  refine jwcalls (d := d) (d' := d - 1) (av := [.int (nI k), .int (nI 163)]) (rest := []) (r := none) hx hb hml hown hts jvChk jl9 (jtChk (by omega) (nI_pos (by omega)) (nI_lt hk (by decide))) (by omega) (fun U hU hW => jwB_m hB hW.alike hU) hl.1 (show decode cJ1_charAt_3b067 3 = .ok (.invokestatic 9, 3) by decide +kernel) (Nat.zero_le 8) rfl ?_
  refine lv_aload_n hx hb (show decode cJ1_charAt_3b067 6 = .ok (.aload_n 0, 1) by decide +kernel) rfl (lv_at hl 0 rfl) ?_
  refine lv_iload_n hx hb (show decode cJ1_charAt_3b067 7 = .ok (.iload_n 1, 1) by decide +kernel) rfl (lv_at hl 1 rfl) ?_
  refine va_tb hx hb hT va_S.rf (v := .int (fhwby.getD k 0)) (vp_in_nI hk (by decide)) (by rw [nI_clamp (by omega)]; rfl) (show decode cJ1_charAt_3b067 8 = .ok (.baload, 1) by decide +kernel) ?_
  refine lv_sipush (v := 255) hx hb (show decode cJ1_charAt_3b067 9 = .ok (.sipush 255, 3) by decide +kernel) (by decide) ?_
  refine lv_iand hx hb (show decode cJ1_charAt_3b067 12 = .ok (.iand, 1) by decide +kernel) ?_
  refine lv_i2c (v := fhwby.getD k 0) hx hb (show decode cJ1_charAt_3b067 13 = .ok (.i2c, 1) by decide +kernel) (jw_c k hk) ?_
  exact W.zret hx hb hrt (jw_n hk) (fun t ht hW => ⟨rfl, ht⟩) (fun q h => by cases h) (show decode cJ1_charAt_3b067 14 = .ok (.ireturn, 1) by decide +kernel) hlk
theorem jtLat {l : Launch} {d : Nat} {adK adV : Nat → Nat} : jwC l d jmLat [.ref (adK 0)] adK adV (some (.int 1)) := by
  refine jwC.of (y := yJ0_isLatin1_aae02) (cc := cJ0_isLatin1_aae02) (nL := 1) (ret := (some .boolean)) RJ0 rfl (by decide +kernel) (Nat.le_refl 1) ?_
  intro p e s m args below meth c ls hx hb hml hown hts hrt hlk hB hl
  have hl : lv_has ls 1 [(0, .ref (adK 0))] := hl
  obtain ⟨-, hc, -, -⟩ := hB.1.1 0 (by decide)
  refine va_gets hx hb hB.2.1 va_S.rf hown (hts _ jf38) (fun _ h => h) (show decode cJ0_isLatin1_aae02 0 = .ok (.getstatic 38, 3) by decide +kernel) ?_
  refine lv_if_eq (off := 14) (tgt := 17) hx hb (show decode cJ0_isLatin1_aae02 3 = .ok (.ifCond .eq 14, 3) by decide +kernel) (by decide) (fun h => absurd h (by decide)) (fun _ => ?_)
  refine lv_aload_n hx hb (show decode cJ0_isLatin1_aae02 6 = .ok (.aload_n 0, 1) by decide +kernel) rfl (lv_at hl 0 rfl) ?_
  refine vk_getf hx hb hc va_S.rf hown (hts _ jf15) (fun _ h => h) (show decode cJ0_isLatin1_aae02 7 = .ok (.getfield 15, 3) by decide +kernel) ?_
  refine lv_if_ne (off := 7) (tgt := 17) hx hb (show decode cJ0_isLatin1_aae02 10 = .ok (.ifCond .ne 7, 3) by decide +kernel) (by decide) (fun h => absurd rfl h) (fun _ => ?_)
  refine lv_iconst (v := 1) hx hb (show decode cJ0_isLatin1_aae02 13 = .ok (.iconst 1, 1) by decide +kernel) (by decide) ?_
  refine lv_goto (off := 4) (tgt := 18) hx hb (show decode cJ0_isLatin1_aae02 14 = .ok (.goto 4, 3) by decide +kernel) (by decide) ?_
  exact W.zret (v := 1) hx hb hrt (by decide) (fun t ht hW => ⟨rfl, ht⟩) (fun q h => by cases h) (show decode cJ0_isLatin1_aae02 18 = .ok (.ireturn, 1) by decide +kernel) hlk
theorem jtCod {l : Launch} {d : Nat} {adK adV : Nat → Nat} : jwC l d jmCod [.ref (adK 0)] adK adV (some (.int 0)) := by
  refine jwC.of (y := yJ0_coder_7d493) (cc := cJ0_coder_7d493) (nL := 1) (ret := (some .byte)) RJ0 rfl (by decide +kernel) (Nat.le_refl 1) ?_
  intro p e s m args below meth c ls hx hb hml hown hts hrt hlk hB hl
  have hl : lv_has ls 1 [(0, .ref (adK 0))] := hl
  obtain ⟨-, hc, -, -⟩ := hB.1.1 0 (by decide)
  refine va_gets hx hb hB.2.1 va_S.rf hown (hts _ jf38) (fun _ h => h) (show decode cJ0_coder_7d493 0 = .ok (.getstatic 38, 3) by decide +kernel) ?_
  refine lv_if_eq (off := 10) (tgt := 13) hx hb (show decode cJ0_coder_7d493 3 = .ok (.ifCond .eq 10, 3) by decide +kernel) (by decide) (fun h => absurd h (by decide)) (fun _ => ?_)
  refine lv_aload_n hx hb (show decode cJ0_coder_7d493 6 = .ok (.aload_n 0, 1) by decide +kernel) rfl (lv_at hl 0 rfl) ?_
  refine vk_getf hx hb hc va_S.rf hown (hts _ jf15) (fun _ h => h) (show decode cJ0_coder_7d493 7 = .ok (.getfield 15, 3) by decide +kernel) ?_
  refine lv_goto (off := 4) (tgt := 14) hx hb (show decode cJ0_coder_7d493 10 = .ok (.goto 4, 3) by decide +kernel) (by decide) ?_
  exact W.zret (v := 0) hx hb hrt (by decide) (fun t ht hW => ⟨rfl, ht⟩) (fun q h => by cases h) (show decode cJ0_coder_7d493 14 = .ok (.ireturn, 1) by decide +kernel) hlk
theorem jtLen {l : Launch} {d : Nat} {adK adV : Nat → Nat} (hd : 1 ≤ d) : jwC l d jmLen [.ref (adK 0)] adK adV (some (.int (nI 163))) := by
  refine jwC.of (y := yJ0_length_8abf5) (cc := cJ0_length_8abf5) (nL := 1) (ret := (some .int)) RJ0 rfl (by decide +kernel) (Nat.le_refl 1) ?_
  intro p e s m args below meth c ls hx hb hml hown hts hrt hlk hB hl
  have hl : lv_has ls 1 [(0, .ref (adK 0))] := hl
  obtain ⟨-, -, hv, hT⟩ := hB.1.1 0 (by decide)
  refine lv_aload_n hx hb (show decode cJ0_length_8abf5 0 = .ok (.aload_n 0, 1) by decide +kernel) rfl (lv_at hl 0 rfl) ?_
  refine vk_getf hx hb hv va_S.rf hown (hts _ jf9) (fun _ h => h) (show decode cJ0_length_8abf5 1 = .ok (.getfield 9, 3) by decide +kernel) ?_
  refine va_tlen hx hb hT va_S.rf (v := nI 163) rfl (show decode cJ0_length_8abf5 4 = .ok (.arraylength, 1) by decide +kernel) ?_
  refine lv_aload_n hx hb (show decode cJ0_length_8abf5 5 = .ok (.aload_n 0, 1) by decide +kernel) rfl (lv_at hl 0 rfl) ?_
  refine jwcallv (d := d) (d' := d - 1) (q := adK 0) (av := []) (rest := [.int (nI 163)]) (r := some (.int 0)) hx hb hml hown hts jvCod jl335 jtCod (by omega) (fun U hU hW => jwB_m hB hW.alike hU) (vk_recv hB.1 (by decide) va_S.rf) hl.1 (show decode cJ0_length_8abf5 6 = .ok (.invokevirtual 335, 3) by decide +kernel) (show 1 ≤ 8 by decide) rfl ?_
  refine lv_ishr hx hb (show decode cJ0_length_8abf5 9 = .ok (.ishr, 1) by decide +kernel) ?_
  rw [show nI 163 >>> ((0 : Int32) &&& 31) = nI 163 by decide]
  exact W.iret hx hb hrt (fun t ht hW => ⟨rfl, ht⟩) (fun q h => by cases h) (show decode cJ0_length_8abf5 10 = .ok (.ireturn, 1) by decide +kernel) hlk
theorem jtChr {l : Launch} {d : Nat} {adK adV : Nat → Nat} {k : Nat} (hd : 3 ≤ d) (hk : k < 163) : jwC l d jmChr [.ref (adK 0), .int (nI k)] adK adV (some (.int (fhwby.getD k 0))) := by
  refine jwC.of (y := yJ0_charAt_5068e) (cc := cJ0_charAt_5068e) (nL := 2) (ret := (some .char)) RJ0 rfl (by decide +kernel) (Nat.le_refl 2) ?_
  intro p e s m args below meth c ls hx hb hml hown hts hrt hlk hB hl
  have hl : lv_has ls 2 [(0, .ref (adK 0)), (1, .int (nI k))] := hl
  obtain ⟨-, -, hv, -⟩ := hB.1.1 0 (by decide)
  refine lv_aload_n hx hb (show decode cJ0_charAt_5068e 0 = .ok (.aload_n 0, 1) by decide +kernel) rfl (lv_at hl 0 rfl) ?_
  refine jwcallv (d := d) (d' := d - 1) (q := adK 0) (av := []) (rest := []) (r := some (.int 1)) hx hb hml hown hts jvLat jl492 jtLat (by omega) (fun U hU hW => jwB_m hB hW.alike hU) (vk_recv hB.1 (by decide) va_S.rf) hl.1 (show decode cJ0_charAt_5068e 1 = .ok (.invokevirtual 492, 3) by decide +kernel) (Nat.zero_le 8) rfl ?_
  refine lv_if_eq (off := 12) (tgt := 16) hx hb (show decode cJ0_charAt_5068e 4 = .ok (.ifCond .eq 12, 3) by decide +kernel) (by decide) (fun h => absurd h (by decide)) (fun _ => ?_)
  refine lv_aload_n hx hb (show decode cJ0_charAt_5068e 7 = .ok (.aload_n 0, 1) by decide +kernel) rfl (lv_at hl 0 rfl) ?_
  refine vk_getf hx hb hv va_S.rf hown (hts _ jf9) (fun _ h => h) (show decode cJ0_charAt_5068e 8 = .ok (.getfield 9, 3) by decide +kernel) ?_
  refine lv_iload_n hx hb (show decode cJ0_charAt_5068e 11 = .ok (.iload_n 1, 1) by decide +kernel) rfl (lv_at hl 1 rfl) ?_
  refine jwcalls (d := d) (d' := d - 1) (av := [.ref (adV 0), .int (nI k)]) (rest := []) (r := some (.int (fhwby.getD k 0))) hx hb hml hown hts jvLch jl495 (jtLch (by omega) hk) (by omega) (fun U hU hW => jwB_m hB hW.alike hU) hl.1 (show decode cJ0_charAt_5068e 12 = .ok (.invokestatic 495, 3) by decide +kernel) (Nat.zero_le 8) rfl ?_
  exact W.zret hx hb hrt (jw_n hk) (fun t ht hW => ⟨rfl, ht⟩) (fun q h => by cases h) (show decode cJ0_charAt_5068e 15 = .ok (.ireturn, 1) by decide +kernel) hlk
section
variable {l : Launch} {D : va_G} {b : Nat} {cA : Nat → ClassId} {X : State → Prop} {d : Nat} {p : Program} {e : Env} {s : State} {m : MethodId} {args : Array Value} {below : List Frame} {meth : Method} {c : Code} {σ : fhM} {v0 : Int32} {r : Option Value} {adK adV : Nat → Nat} {H : Heap} {locs : List Loc}
def jwR (adK adV : Nat → Nat) (s : State) (H : Heap) : Prop := (∀ U : State, U.heap = H → s.WarmedH U.vm → jwB adK adV U) ∧ ∃ cell : Cell, H[adK 0]? = some cell ∧ cell.vm.isStatics = false ∧ s.vm.findClass RJ0 = some cell.cls
/-- the loop: what is left of WORDS is t -/
theorem jwloop (hx : p.tables.exec = Jvm.exec) (hb : c.code = cX8_wordNumber) (hml : c.maxLocals = 6) (hown : s.vm.findClass RX8 = some m.cls) (hts : ∀ w ∈ fhtbl, w.before args s = true) (hrt : meth.sig.returnType = some .int) (hlk : meth.locks = false) (hd : 6 ≤ d) (hZ : vk_R RX8 64 fhwds (adK 0) s) (hR : jwR adK adV s H) (hP : va_P D vwCl (fhws fhYF b cA σ) H) (hS : va_S (fhA b fhYF.2.2) s.heap H locs) :
    ∀ (t : List Int32) (k : Nat) (nu bu sh : Int32) (ls : Array Slot), fhwby.drop k = t → k ≤ 163 → lv_has ls 6 [(4, .int (nI k)), (3, .int sh), (2, .int bu), (1, .int nu), (0, .int v0)] → r = some (.int (fwN v0 t nu bu sh)) → W p l e (fhrm d) s m args below meth c H locs 0 0 (MQ below (fhQ fhYF D b cA r σ) args s 0 0 (fhA b fhYF.2.2)) (F0 m 9 ls [])
  | [], k, nu, bu, sh, ls, hdr, hk, hl, hr => by
    have hk : k = 163 := by
      have := congrArg List.length hdr
      rw [List.length_drop, jwlen] at this
      have h0 : 163 - k = 0 := this
      omega
    subst hr
    refine lv_iload hx hb (show decode cX8_wordNumber 9 = .ok (.iload 4, 2) by decide +kernel) (lv_at hl 0 rfl) ?_
    refine va_ldcS hx hb hown hZ (show decode cX8_wordNumber 11 = .ok (.ldc 64, 2) by decide +kernel) ?_
    refine jwcallv (d := d) (d' := d - 1) (q := adK 0) (av := []) (rest := [.int (nI k)]) (r := some (.int (nI 163))) hx hb hml hown hts jvLen jl66 (jtLen (by omega)) (by omega) hR.1 hR.2 hl.1 (show decode cX8_wordNumber 13 = .ok (.invokevirtual 66, 3) by decide +kernel) (show 1 ≤ 8 by decide) rfl ?_
    refine lv_icmp_ge (off := 57) (tgt := 73) hx hb (show decode cX8_wordNumber 16 = .ok (.if_icmp .ge 57, 3) by decide +kernel) (by decide) (fun _ => ?_) (fun h => absurd (nI_le (show 163 ≤ k by omega) (by omega)) h)
    refine lv_bipush (v := 99) hx hb (show decode cX8_wordNumber 73 = .ok (.bipush 99, 2) by decide +kernel) (by decide) ?_
    exact W.iret hx hb hrt (fun u hu hW => ⟨rfl, by rw [hu]; exact hP, hS.F hu⟩) hS.2.2 (show decode cX8_wordNumber 75 = .ok (.ireturn, 1) by decide +kernel) hlk
  | ch :: t, k, nu, bu, sh, ls, hdr, hk, hl, hr => by
    obtain ⟨h1, h2, h3, -⟩ := sc_dropC hdr
    have hk : k < 163 := h1
    refine lv_iload hx hb (show decode cX8_wordNumber 9 = .ok (.iload 4, 2) by decide +kernel) (lv_at hl 0 rfl) ?_
    refine va_ldcS hx hb hown hZ (show decode cX8_wordNumber 11 = .ok (.ldc 64, 2) by decide +kernel) ?_
    refine jwcallv (d := d) (d' := d - 1) (q := adK 0) (av := []) (rest := [.int (nI k)]) (r := some (.int (nI 163))) hx hb hml hown hts jvLen jl66 (jtLen (by omega)) (by omega) hR.1 hR.2 hl.1 (show decode cX8_wordNumber 13 = .ok (.invokevirtual 66, 3) by decide +kernel) (show 1 ≤ 8 by decide) rfl ?_
    refine lv_icmp_ge (off := 57) (tgt := 73) hx hb (show decode cX8_wordNumber 16 = .ok (.if_icmp .ge 57, 3) by decide +kernel) (by decide) (fun h => absurd h (nI_ge hk (by decide))) (fun _ => ?_)
    refine va_ldcS hx hb hown hZ (show decode cX8_wordNumber 19 = .ok (.ldc 64, 2) by decide +kernel) ?_
    refine lv_iload hx hb (show decode cX8_wordNumber 21 = .ok (.iload 4, 2) by decide +kernel) (lv_at hl 0 rfl) ?_
    refine jwcallv (d := d) (d' := d - 1) (q := adK 0) (av := [.int (nI k)]) (rest := []) (r := some (.int (fhwby.getD k 0))) hx hb hml hown hts jvChr jl71 (jtChr (by omega) hk) (by omega) hR.1 hR.2 hl.1 (show decode cX8_wordNumber 23 = .ok (.invokevirtual 71, 3) by decide +kernel) (Nat.zero_le 8) rfl ?_
    rw [h2]
    refine lv_istore (lv' := [(5, .int ch), (4, .int (nI k)), (3, .int sh), (2, .int bu), (1, .int nu), (0, .int v0)]) hx hb (show decode cX8_wordNumber 26 = .ok (.istore 5, 2) by decide +kernel) hl (by decide) rfl (fun ls hl => ?_)
    refine lv_iload hx hb (show decode cX8_wordNumber 28 = .ok (.iload 5, 2) by decide +kernel) (lv_at hl 0 rfl) ?_
    refine lv_bipush (v := 32) hx hb (show decode cX8_wordNumber 30 = .ok (.bipush 32, 2) by decide +kernel) (by decide) ?_
    refine lv_icmp_ne (off := 20) (tgt := 52) hx hb (show decode cX8_wordNumber 32 = .ok (.if_icmp .ne 20, 3) by decide +kernel) (by decide) (fun hc => ?_) (fun hc => ?_)
    · have hr : r = some (.int (fwN v0 t nu (bu ||| (((ch - 97) + 1) <<< (sh &&& 31))) (sh + 5))) := by rw [hr, fwN, if_neg hc]
      refine lv_iload_n hx hb (show decode cX8_wordNumber 52 = .ok (.iload_n 2, 1) by decide +kernel) rfl (lv_at hl 3 rfl) ?_
      refine lv_iload hx hb (show decode cX8_wordNumber 53 = .ok (.iload 5, 2) by decide +kernel) (lv_at hl 0 rfl) ?_
      refine lv_bipush (v := 97) hx hb (show decode cX8_wordNumber 55 = .ok (.bipush 97, 2) by decide +kernel) (by decide) ?_
      refine lv_isub hx hb (show decode cX8_wordNumber 57 = .ok (.isub, 1) by decide +kernel) ?_
      refine lv_iconst (v := 1) hx hb (show decode cX8_wordNumber 58 = .ok (.iconst 1, 1) by decide +kernel) (by decide) ?_
      refine lv_iadd hx hb (show decode cX8_wordNumber 59 = .ok (.iadd, 1) by decide +kernel) ?_
      refine lv_iload_n hx hb (show decode cX8_wordNumber 60 = .ok (.iload_n 3, 1) by decide +kernel) rfl (lv_at hl 2 rfl) ?_
      refine lv_ishl hx hb (show decode cX8_wordNumber 61 = .ok (.ishl, 1) by decide +kernel) ?_
      refine lv_ior hx hb (show decode cX8_wordNumber 62 = .ok (.ior, 1) by decide +kernel) ?_
      generalize bu ||| (((ch - 97) + 1) <<< (sh &&& 31)) = bu2 at hr ⊢
      refine lv_istore_n (lv' := [(2, .int bu2), (5, .int ch), (4, .int (nI k)), (3, .int sh), (1, .int nu), (0, .int v0)]) hx hb (show decode cX8_wordNumber 63 = .ok (.istore_n 2, 1) by decide +kernel) rfl hl (by decide) rfl (fun ls hl => ?_)
      refine lv_iinc (v := sh + 5) (k := 3) (lv' := [(3, .int (sh + 5)), (2, .int bu2), (5, .int ch), (4, .int (nI k)), (1, .int nu), (0, .int v0)]) hx hb (show decode cX8_wordNumber 64 = .ok (.iinc 3 5, 3) by decide +kernel) hl rfl rfl (by decide) rfl (fun ls hl => ?_)
      refine lv_iinc (v := nI (k + 1)) (k := 3) (lv' := [(4, .int (nI (k + 1))), (3, .int (sh + 5)), (2, .int bu2), (5, .int ch), (1, .int nu), (0, .int v0)]) hx hb (show decode cX8_wordNumber 67 = .ok (.iinc 4 1, 3) by decide +kernel) hl rfl (nI_succ k).symm (by decide) rfl (fun ls hl => ?_)
      refine lv_goto (off := -61) (tgt := 9) hx hb (show decode cX8_wordNumber 70 = .ok (.goto (-61), 3) by decide +kernel) (by decide) ?_
      exact jwloop hx hb hml hown hts hrt hlk hd hZ hR hP hS t (k + 1) nu bu2 (sh + 5) ls h3 (by omega) (lv_sub hl [0, 1, 2, 4, 5] rfl) hr
    · refine lv_iload_n hx hb (show decode cX8_wordNumber 35 = .ok (.iload_n 2, 1) by decide +kernel) rfl (lv_at hl 3 rfl) ?_
      refine lv_iload_n hx hb (show decode cX8_wordNumber 36 = .ok (.iload_n 0, 1) by decide +kernel) rfl (lv_at hl 5 rfl) ?_
      refine lv_icmp_ne (off := 5) (tgt := 42) hx hb (show decode cX8_wordNumber 37 = .ok (.if_icmp .ne 5, 3) by decide +kernel) (by decide) (fun hc2 => ?_) (fun hc2 => ?_)
      · have hr : r = some (.int (fwN v0 t (nu + 1) 0 0)) := by rw [hr, fwN, if_pos hc, if_neg hc2]
        refine lv_iinc (v := nu + 1) (k := 4) (lv' := [(1, .int (nu + 1)), (5, .int ch), (4, .int (nI k)), (3, .int sh), (2, .int bu), (0, .int v0)]) hx hb (show decode cX8_wordNumber 42 = .ok (.iinc 1 1, 3) by decide +kernel) hl rfl rfl (by decide) rfl (fun ls hl => ?_)
        refine lv_iconst (v := 0) hx hb (show decode cX8_wordNumber 45 = .ok (.iconst 0, 1) by decide +kernel) (by decide) ?_
        refine lv_istore_n (lv' := [(2, .int 0), (1, .int (nu + 1)), (5, .int ch), (4, .int (nI k)), (3, .int sh), (0, .int v0)]) hx hb (show decode cX8_wordNumber 46 = .ok (.istore_n 2, 1) by decide +kernel) rfl hl (by decide) rfl (fun ls hl => ?_)
        refine lv_iconst (v := 0) hx hb (show decode cX8_wordNumber 47 = .ok (.iconst 0, 1) by decide +kernel) (by decide) ?_
        refine lv_istore_n (lv' := [(3, .int 0), (2, .int 0), (1, .int (nu + 1)), (5, .int ch), (4, .int (nI k)), (0, .int v0)]) hx hb (show decode cX8_wordNumber 48 = .ok (.istore_n 3, 1) by decide +kernel) rfl hl (by decide) rfl (fun ls hl => ?_)
        refine lv_goto (off := 18) (tgt := 67) hx hb (show decode cX8_wordNumber 49 = .ok (.goto 18, 3) by decide +kernel) (by decide) ?_
        refine lv_iinc (v := nI (k + 1)) (k := 4) (lv' := [(4, .int (nI (k + 1))), (3, .int 0), (2, .int 0), (1, .int (nu + 1)), (5, .int ch), (0, .int v0)]) hx hb (show decode cX8_wordNumber 67 = .ok (.iinc 4 1, 3) by decide +kernel) hl rfl (nI_succ k).symm (by decide) rfl (fun ls hl => ?_)
        refine lv_goto (off := -61) (tgt := 9) hx hb (show decode cX8_wordNumber 70 = .ok (.goto (-61), 3) by decide +kernel) (by decide) ?_
        exact jwloop hx hb hml hown hts hrt hlk hd hZ hR hP hS t (k + 1) (nu + 1) 0 0 ls h3 (by omega) (lv_sub hl [0, 1, 2, 3, 5] rfl) hr
      · have hr : r = some (.int nu) := by rw [hr, fwN, if_pos hc, if_pos hc2]
        subst hr
        refine lv_iload_n hx hb (show decode cX8_wordNumber 40 = .ok (.iload_n 1, 1) by decide +kernel) rfl (lv_at hl 4 rfl) ?_
        exact W.iret hx hb hrt (fun u hu hW => ⟨rfl, by rw [hu]; exact hP, hS.F hu⟩) hS.2.2 (show decode cX8_wordNumber 41 = .ok (.ireturn, 1) by decide +kernel) hlk
end
theorem T_X8_wordNumber {E : fhE} {d : Nat} (hE : fhEok fhYF E) (hd : 6 ≤ d) (v0 : Int32) (σ : fhM) : fhC fhYF E d miX8_wordNumber [.int v0] σ (some (.int (f_X8_wordNumber v0 σ))) σ := by
  refine fhC.of (y := yX8_wordNumber) (cc := cX8_wordNumber) (nL := 6) (ret := (some .int)) 8 rfl (by decide +kernel) (Nat.le_of_ble_eq_true rfl) ?_
  intro Γ hΓ hR hD hEn
  subst hD; subst hEn
  obtain ⟨⟨l, D, b, cA, X⟩, d, p, e, s, m, args, below, meth, c, r, σe⟩ := Γ
  obtain ⟨hx, hb, hml, hown, hts, hK, hrt, hlk, hX, hXs⟩ := hΓ
  obtain ⟨rfl, rfl⟩ := hR
  obtain ⟨-, adK, adV, h2, h3, h4, h6⟩ := hE s hX
  have hown : s.vm.findClass RX8 = some m.cls := hown
  have hd : 6 ≤ d := hd
  intro ls H locs hl hP hS
  have hl : lv_has ls c.maxLocals [(0, .int v0)] := hl
  rw [hml] at hl
  have hR : jwR adK adV s H := by
    refine ⟨fun U hU hW => ?_, vk_recv h3 (by decide) hS⟩
    unfold jwB
    rw [hU]
    exact ⟨vk_S.narrow ((vk_S.moved hW.alike h3).kept hS.2.1) (fun _ h => h.elim), va_Z.narrow ((va_Z.moved hW.alike h4).kept hS.2.1) (fun _ h => h.elim), va_Zq.narrow ((va_Zq.moved hW.alike h6).kept hS.2.1) (fun _ h => h.elim)⟩
  refine lv_iconst (v := 0) hx hb (show decode cX8_wordNumber 0 = .ok (.iconst 0, 1) by decide +kernel) (by decide) ?_
  refine lv_istore_n (lv' := [(1, .int 0), (0, .int v0)]) hx hb (show decode cX8_wordNumber 1 = .ok (.istore_n 1, 1) by decide +kernel) rfl hl (by decide) rfl (fun ls hl => ?_)
  refine lv_iconst (v := 0) hx hb (show decode cX8_wordNumber 2 = .ok (.iconst 0, 1) by decide +kernel) (by decide) ?_
  refine lv_istore_n (lv' := [(2, .int 0), (1, .int 0), (0, .int v0)]) hx hb (show decode cX8_wordNumber 3 = .ok (.istore_n 2, 1) by decide +kernel) rfl hl (by decide) rfl (fun ls hl => ?_)
  refine lv_iconst (v := 0) hx hb (show decode cX8_wordNumber 4 = .ok (.iconst 0, 1) by decide +kernel) (by decide) ?_
  refine lv_istore_n (lv' := [(3, .int 0), (2, .int 0), (1, .int 0), (0, .int v0)]) hx hb (show decode cX8_wordNumber 5 = .ok (.istore_n 3, 1) by decide +kernel) rfl hl (by decide) rfl (fun ls hl => ?_)
  refine lv_iconst (v := 0) hx hb (show decode cX8_wordNumber 6 = .ok (.iconst 0, 1) by decide +kernel) (by decide) ?_
  refine lv_istore (lv' := [(4, .int (nI 0)), (3, .int 0), (2, .int 0), (1, .int 0), (0, .int v0)]) hx hb (show decode cX8_wordNumber 7 = .ok (.istore 4, 2) by decide +kernel) hl (by decide) rfl (fun ls hl => ?_)
  exact jwloop hx hb hml hown hts hrt hlk hd h2 hR hP hS fhwby 0 0 0 0 ls rfl (by decide) hl rfl
