/-! METHODS AND LINKS, by program -/
def miJ9_max_7cf53 : fhMI := (yJ9_max_7cf53, cJ9_max_7cf53, 2, (some .int))
theorem msJ9_max_7cf53 : fhMs miJ9_max_7cf53 2 := ⟨⟨fhm (in_t (in_1 (List.mem_of_getElem? (i := 36) rfl))) rfl, fhm (in_t (in_1 (List.mem_of_getElem? (i := 3) rfl))) rfl, ⟨by decide +kernel, by decide +kernel⟩, by decide +kernel, by decide⟩, fhm (in_t (in_1 (List.mem_of_getElem? (i := 35) rfl))) rfl⟩
def miJ9_min_7cf53 : fhMI := (yJ9_min_7cf53, cJ9_min_7cf53, 2, (some .int))
theorem msJ9_min_7cf53 : fhMs miJ9_min_7cf53 2 := ⟨⟨fhm (in_t (in_4 (List.mem_of_getElem? (i := 4) rfl))) rfl, fhm (in_t (in_1 (List.mem_of_getElem? (i := 3) rfl))) rfl, ⟨by decide +kernel, by decide +kernel⟩, by decide +kernel, by decide⟩, fhm (in_t (in_4 (List.mem_of_getElem? (i := 3) rfl))) rfl⟩
def miJ9_max_f86c9 : fhMI := (yJ9_max_f86c9, cJ9_max_f86c9, 4, (some .long))
theorem msJ9_max_f86c9 : fhMs miJ9_max_f86c9 2 := ⟨⟨fhm (in_t (in_4 (List.mem_of_getElem? (i := 100) rfl))) rfl, fhm (in_t (in_1 (List.mem_of_getElem? (i := 3) rfl))) rfl, ⟨by decide +kernel, by decide +kernel⟩, by decide +kernel, by decide⟩, fhm (in_t (in_4 (List.mem_of_getElem? (i := 99) rfl))) rfl⟩
def miJ9_min_f86c9 : fhMI := (yJ9_min_f86c9, cJ9_min_f86c9, 4, (some .long))
theorem msJ9_min_f86c9 : fhMs miJ9_min_f86c9 2 := ⟨⟨fhm (in_t (in_4 (List.mem_of_getElem? (i := 97) rfl))) rfl, fhm (in_t (in_1 (List.mem_of_getElem? (i := 3) rfl))) rfl, ⟨by decide +kernel, by decide +kernel⟩, by decide +kernel, by decide⟩, fhm (in_t (in_4 (List.mem_of_getElem? (i := 96) rfl))) rfl⟩
theorem ml_2_7 : Cond.methodLink (fhrx 2) 7 yJ9_max_7cf53 ∈ fhtbl := fhm (in_t (in_1 (List.mem_of_getElem? (i := 34) rfl))) rfl
theorem ml_3_28 : Cond.methodLink (fhrx 3) 28 yJ9_min_7cf53 ∈ fhtbl := fhm (in_t (in_4 (List.mem_of_getElem? (i := 2) rfl))) rfl
theorem ml_10_34 : Cond.methodLink (fhrx 10) 34 yJ9_max_7cf53 ∈ fhtbl := fhm (in_t (in_4 (List.mem_of_getElem? (i := 61) rfl))) rfl
theorem ml_10_40 : Cond.methodLink (fhrx 10) 40 yJ9_min_7cf53 ∈ fhtbl := fhm (in_t (in_4 (List.mem_of_getElem? (i := 62) rfl))) rfl
theorem ml_10_113 : Cond.methodLink (fhrx 10) 113 yJ9_min_f86c9 ∈ fhtbl := fhm (in_t (in_4 (List.mem_of_getElem? (i := 95) rfl))) rfl
theorem ml_10_116 : Cond.methodLink (fhrx 10) 116 yJ9_max_f86c9 ∈ fhtbl := fhm (in_t (in_4 (List.mem_of_getElem? (i := 98) rfl))) rfl
theorem ml_9_67 : Cond.methodLink (fhrx 9) 67 yJ9_min_7cf53 ∈ fhtbl := fhm (in_t (in_4 (List.mem_of_getElem? (i := 121) rfl))) rfl
theorem ml_6_37 : Cond.methodLink (fhrx 6) 37 yJ9_min_7cf53 ∈ fhtbl := fhm (in_t (in_4 (List.mem_of_getElem? (i := 191) rfl))) rfl
theorem ml_0_63 : Cond.methodLink (fhrx 0) 63 yJ9_min_7cf53 ∈ fhtbl := fhm (in_t (in_5 (List.mem_of_getElem? (i := 69) rfl))) rfl
theorem ml_1_95 : Cond.methodLink (fhrx 1) 95 yJ9_min_7cf53 ∈ fhtbl := fhm (in_t (in_5 (List.mem_of_getElem? (i := 136) rfl))) rfl
theorem ml_1_120 : Cond.methodLink (fhrx 1) 120 yJ9_max_7cf53 ∈ fhtbl := fhm (in_t (in_5 (List.mem_of_getElem? (i := 200) rfl))) rfl
theorem ml_11_379 : Cond.methodLink (fhrx 11) 379 yJ9_max_7cf53 ∈ fhtbl := fhm (in_t (in_6 (List.mem_of_getElem? (i := 55) rfl))) rfl
theorem ml_11_384 : Cond.methodLink (fhrx 11) 384 yJ9_min_7cf53 ∈ fhtbl := fhm (in_t (in_6 (List.mem_of_getElem? (i := 56) rfl))) rfl
theorem T_X8_wordNumber {E : fhE} {d : Nat} (hE : fhEok fhYF E) (hd : 6 ≤ d) (v0 : Int32) (σ : fhM) : fhC fhYF E d miX8_wordNumber [.int v0] σ (some (.int (f_X8_wordNumber v0 σ))) σ := sorry
