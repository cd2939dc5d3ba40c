/-! THE START: what the Statement gives of WORDS and of the JDK's statics -/
def jwE (j : Nat) : Cond := .eq (.elem (.field (.string RX8 64) "java/lang/String" "value" "[B") (.int (Int32.ofNat j))) (.int (fhwby.getD j 0))
theorem jn_list : (flatC (Jvm.Cond.and given_1 narrow_1)).drop 13 = (List.range 163).map jwE := by decide +kernel
theorem jn_mem {j : Nat} (h : j < 163) : jwE j ∈ flatC (Jvm.Cond.and given_1 narrow_1) := by
  have h1 : jwE j ∈ (List.range 163).map jwE := List.mem_map.mpr ⟨j, List.mem_range.mpr h, rfl⟩
  rw [← jn_list] at h1
  exact List.mem_of_mem_drop h1
theorem jn_c : (Cond.eq (.static "java/lang/String" "COMPACT_STRINGS" "Z") (.int 1)) ∈ flatC (Jvm.Cond.and given_1 narrow_1) := by decide +kernel
theorem jn_f : (Cond.isRef (.static "jdk/internal/util/Preconditions" "SIOOBE_FORMATTER" "Ljava/util/function/BiFunction;")) ∈ flatC (Jvm.Cond.and given_1 narrow_1) := by decide +kernel
theorem jn_x : (Cond.exactly (.string RX8 64) "java/lang/String") ∈ flatC (Jvm.Cond.and given_1 narrow_1) := by decide +kernel
theorem jn_o : (Cond.eq (.field (.string RX8 64) "java/lang/String" "coder" "B") (.int 0)) ∈ flatC (Jvm.Cond.and given_1 narrow_1) := by decide +kernel
theorem jn_a : (Cond.arrayOf (.field (.string RX8 64) "java/lang/String" "value" "[B") .byte) ∈ flatC (Jvm.Cond.and given_1 narrow_1) := by decide +kernel
theorem jn_l : (Cond.eq (.length (.field (.string RX8 64) "java/lang/String" "value" "[B")) (.int (Int32.ofNat 163))) ∈ flatC (Jvm.Cond.and given_1 narrow_1) := by decide +kernel
theorem jn_r : Cond.stringRef RX8 64 fhwds ∈ lw_tbl := in_t (in_3 (List.mem_of_getElem? (i := 90) rfl))
theorem jn_z : Cond.laysStatic "java/lang/String" "COMPACT_STRINGS" "Z" ∈ lw_tbl := in_t (in_3 (List.mem_of_getElem? (i := 100) rfl))
theorem jn_q : Cond.laysStatic RJ3 "SIOOBE_FORMATTER" "Ljava/util/function/BiFunction;" ∈ lw_tbl := in_t (in_3 (List.mem_of_getElem? (i := 116) rfl))
theorem jn_i : Cond.initialized "java/lang/String" ∈ lw_tbl := in_t (in_1 (List.mem_of_getElem? (i := 15) rfl))
theorem jn_p : Cond.initialized RJ3 ∈ lw_tbl := in_t (in_1 (List.mem_of_getElem? (i := 17) rfl))
theorem jn_n : Cond.fieldLinkNest RX4 103 RX9 "possible" "LForeheadMarks$Cells;" RX11 ∈ lw_tbl := in_t (in_1 (List.mem_of_getElem? (i := 225) rfl))
theorem jn_X {args : Array Value} {s : State} (hts : ∀ w ∈ lw_tbl, w.before args s = true) (hs : ∀ w ∈ flatC (Jvm.Cond.and given_1 narrow_1), w.before args s = true) : lX s.heap.size s := by
  have hA : ∀ a : Nat, a < s.heap.size → ¬ gAa s.heap.size a := fun a h h2 => absurd h2 (Nat.not_le.mpr h)
  obtain ⟨adK, adV, h3, h2⟩ := vk_Sof (args := args) (s := s) (N := 1) (tm := fun _ => Term.string RX8 64) (len := [fhwby.length]) (byt := [fhwby]) (A := gAa s.heap.size)
    (fun i hi => (by have h0 : i = 0 := by omega
                     subst h0
                     exact (show fhwby.length < 2 ^ 31 by rw [jwlen]; decide)))
    (fun i _ => hs _ jn_x) (fun i _ => hs _ jn_o) (fun i _ => hs _ jn_a)
    (fun i hi => (by have h0 : i = 0 := by omega
                     subst h0
                     exact hs _ jn_l))
    (fun i hi j hj => (by have h0 : i = 0 := by omega
                          subst h0
                          exact hs _ (jn_mem hj)))
    (fun i j hi hj hne => absurd (show i = j by omega) hne) hA
  refine ⟨⟨va_tabs rfl rfl (hts _ jn_n), adK, adV, vk_R.of (hts _ jn_r) (h2 0 (by decide)), h3, va_Zof (hts _ jn_z) (hts _ jn_i) (va_eqi (hs _ jn_c)) hA, va_Zqof (hts _ jn_q) (hts _ jn_p) (hs _ jn_f) hA⟩, fun q hq => va_tabs rfl rfl (hts _ (gnst_m q hq))⟩
