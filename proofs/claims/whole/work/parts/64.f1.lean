set_option maxRecDepth 100000 in
set_option maxHeartbeats 4000000 in
theorem L_J9_max_7cf53_E {Γ : fhX} (hE : fhEok fhYF (fhEn Γ)) (hΓ : fhOk fhYF 14 cJ9_max_7cf53 2 (some .int) Γ) (hd : 0 ≤ fhD Γ) (v0 : Int32) (v1 : Int32)  (σ : fhM) (o : Int32) (h : f_J9_max_7cf53 v0 v1 σ = o) (hk : (fun o => fhRet Γ (some (.int o)) σ) o) : fhW fhYF Γ 0 [(0, .int v0), (1, .int v1)] [] σ := by
  unfold f_J9_max_7cf53 at h
  refine fhW.blk fhPF fhLL hΓ [(.iload_n 0, 0), (.iload_n 1, 0)] (pc' := 2) (lv' := [(0, .int v0), (1, .int v1)]) (st' := [.int v1, .int v0]) (σ' := σ) (by decide +kernel) rfl rfl rfl ?_
  refine fhW.i_lt hΓ (tgt := 9) (show fhbk _ _ (.if_icmp .lt (7)) _ = true by decide +kernel) (fun hc => ?_) (fun hc => ?_)
  · rw [if_pos hc] at h
    refine fhW.blk fhPF fhLL hΓ [(.iload_n 1, 0)] (pc' := 10) (lv' := [(0, .int v0), (1, .int v1)]) (st' := [.int v1]) (σ' := σ) (by decide +kernel) rfl rfl rfl ?_
    subst h
    exact fhW.iret hΓ (by decide +kernel) hk
  · rw [if_neg hc] at h
    refine fhW.blk fhPF fhLL hΓ [(.iload_n 0, 0)] (pc' := 6) (lv' := [(0, .int v0), (1, .int v1)]) (st' := [.int v0]) (σ' := σ) (by decide +kernel) rfl rfl rfl ?_
    refine fhW.goto hΓ (off := 4) (tgt := 10) (by decide +kernel) ?_
    subst h
    exact fhW.iret hΓ (by decide +kernel) hk
set_option maxRecDepth 100000 in
theorem T_J9_max_7cf53 {E : fhE} {d : Nat} (hE : fhEok fhYF E) (hd : 0 ≤ d) (v0 : Int32) (v1 : Int32)  (σ : fhM) : fhC fhYF E d miJ9_max_7cf53 [.int v0, .int v1] σ (some (.int (f_J9_max_7cf53 v0 v1 σ))) σ := by
  refine fhC.of (y := yJ9_max_7cf53) (cc := cJ9_max_7cf53) (nL := 2) (ret := (some .int)) 14 rfl (by decide +kernel) (Nat.le_of_ble_eq_true rfl) ?_
  intro Γ hΓ hR hD hEn
  subst hD; subst hEn
  exact L_J9_max_7cf53_E hE hΓ hd v0 v1  σ _ rfl hR
set_option maxRecDepth 100000 in
set_option maxHeartbeats 4000000 in
theorem L_J9_min_7cf53_E {Γ : fhX} (hE : fhEok fhYF (fhEn Γ)) (hΓ : fhOk fhYF 14 cJ9_min_7cf53 2 (some .int) Γ) (hd : 0 ≤ fhD Γ) (v0 : Int32) (v1 : Int32)  (σ : fhM) (o : Int32) (h : f_J9_min_7cf53 v0 v1 σ = o) (hk : (fun o => fhRet Γ (some (.int o)) σ) o) : fhW fhYF Γ 0 [(0, .int v0), (1, .int v1)] [] σ := by
  unfold f_J9_min_7cf53 at h
  refine fhW.blk fhPF fhLL hΓ [(.iload_n 0, 0), (.iload_n 1, 0)] (pc' := 2) (lv' := [(0, .int v0), (1, .int v1)]) (st' := [.int v1, .int v0]) (σ' := σ) (by decide +kernel) rfl rfl rfl ?_
  refine fhW.i_gt hΓ (tgt := 9) (show fhbk _ _ (.if_icmp .gt (7)) _ = true by decide +kernel) (fun hc => ?_) (fun hc => ?_)
  · rw [if_pos hc] at h
    refine fhW.blk fhPF fhLL hΓ [(.iload_n 1, 0)] (pc' := 10) (lv' := [(0, .int v0), (1, .int v1)]) (st' := [.int v1]) (σ' := σ) (by decide +kernel) rfl rfl rfl ?_
    subst h
    exact fhW.iret hΓ (by decide +kernel) hk
  · rw [if_neg hc] at h
    refine fhW.blk fhPF fhLL hΓ [(.iload_n 0, 0)] (pc' := 6) (lv' := [(0, .int v0), (1, .int v1)]) (st' := [.int v0]) (σ' := σ) (by decide +kernel) rfl rfl rfl ?_
    refine fhW.goto hΓ (off := 4) (tgt := 10) (by decide +kernel) ?_
    subst h
    exact fhW.iret hΓ (by decide +kernel) hk
set_option maxRecDepth 100000 in
theorem T_J9_min_7cf53 {E : fhE} {d : Nat} (hE : fhEok fhYF E) (hd : 0 ≤ d) (v0 : Int32) (v1 : Int32)  (σ : fhM) : fhC fhYF E d miJ9_min_7cf53 [.int v0, .int v1] σ (some (.int (f_J9_min_7cf53 v0 v1 σ))) σ := by
  refine fhC.of (y := yJ9_min_7cf53) (cc := cJ9_min_7cf53) (nL := 2) (ret := (some .int)) 14 rfl (by decide +kernel) (Nat.le_of_ble_eq_true rfl) ?_
  intro Γ hΓ hR hD hEn
  subst hD; subst hEn
  exact L_J9_min_7cf53_E hE hΓ hd v0 v1  σ _ rfl hR
set_option maxRecDepth 100000 in
set_option maxHeartbeats 4000000 in
theorem L_J9_max_f86c9_E {Γ : fhX} (hE : fhEok fhYF (fhEn Γ)) (hΓ : fhOk fhYF 14 cJ9_max_f86c9 4 (some .long) Γ) (hd : 0 ≤ fhD Γ) (v0 : Int64) (v2 : Int64)  (σ : fhM) (o : Int64) (h : f_J9_max_f86c9 v0 v2 σ = o) (hk : (fun o => fhRet Γ (some (.long o)) σ) o) : fhW fhYF Γ 0 [(0, .long v0), (2, .long v2)] [] σ := by
  unfold f_J9_max_f86c9 at h
  refine fhW.blk fhPF fhLL hΓ [(.lload_n 0, 0), (.lload_n 2, 0), (.lcmp, 0)] (pc' := 3) (lv' := [(0, .long v0), (2, .long v2)]) (st' := [.int (lg_cmp v0 v2)]) (σ' := σ) (by decide +kernel) rfl rfl rfl ?_
  refine fhW.z_lt hΓ (tgt := 10) (show fhbk _ _ (.ifCond .lt (7)) _ = true by decide +kernel) (fun hc => ?_) (fun hc => ?_)
  · rw [if_pos hc] at h
    refine fhW.blk fhPF fhLL hΓ [(.lload_n 2, 0)] (pc' := 11) (lv' := [(0, .long v0), (2, .long v2)]) (st' := [.long v2]) (σ' := σ) (by decide +kernel) rfl rfl rfl ?_
    subst h
    exact fhW.lret hΓ (by decide +kernel) hk
  · rw [if_neg hc] at h
    refine fhW.blk fhPF fhLL hΓ [(.lload_n 0, 0)] (pc' := 7) (lv' := [(0, .long v0), (2, .long v2)]) (st' := [.long v0]) (σ' := σ) (by decide +kernel) rfl rfl rfl ?_
    refine fhW.goto hΓ (off := 4) (tgt := 11) (by decide +kernel) ?_
    subst h
    exact fhW.lret hΓ (by decide +kernel) hk
set_option maxRecDepth 100000 in
theorem T_J9_max_f86c9 {E : fhE} {d : Nat} (hE : fhEok fhYF E) (hd : 0 ≤ d) (v0 : Int64) (v2 : Int64)  (σ : fhM) : fhC fhYF E d miJ9_max_f86c9 [.long v0, .long v2] σ (some (.long (f_J9_max_f86c9 v0 v2 σ))) σ := by
  refine fhC.of (y := yJ9_max_f86c9) (cc := cJ9_max_f86c9) (nL := 4) (ret := (some .long)) 14 rfl (by decide +kernel) (Nat.le_of_ble_eq_true rfl) ?_
  intro Γ hΓ hR hD hEn
  subst hD; subst hEn
  exact L_J9_max_f86c9_E hE hΓ hd v0 v2  σ _ rfl hR
set_option maxRecDepth 100000 in
set_option maxHeartbeats 4000000 in
theorem L_J9_min_f86c9_E {Γ : fhX} (hE : fhEok fhYF (fhEn Γ)) (hΓ : fhOk fhYF 14 cJ9_min_f86c9 4 (some .long) Γ) (hd : 0 ≤ fhD Γ) (v0 : Int64) (v2 : Int64)  (σ : fhM) (o : Int64) (h : f_J9_min_f86c9 v0 v2 σ = o) (hk : (fun o => fhRet Γ (some (.long o)) σ) o) : fhW fhYF Γ 0 [(0, .long v0), (2, .long v2)] [] σ := by
  unfold f_J9_min_f86c9 at h
  refine fhW.blk fhPF fhLL hΓ [(.lload_n 0, 0), (.lload_n 2, 0), (.lcmp, 0)] (pc' := 3) (lv' := [(0, .long v0), (2, .long v2)]) (st' := [.int (lg_cmp v0 v2)]) (σ' := σ) (by decide +kernel) rfl rfl rfl ?_
  refine fhW.z_gt hΓ (tgt := 10) (show fhbk _ _ (.ifCond .gt (7)) _ = true by decide +kernel) (fun hc => ?_) (fun hc => ?_)
  · rw [if_pos hc] at h
    refine fhW.blk fhPF fhLL hΓ [(.lload_n 2, 0)] (pc' := 11) (lv' := [(0, .long v0), (2, .long v2)]) (st' := [.long v2]) (σ' := σ) (by decide +kernel) rfl rfl rfl ?_
    subst h
    exact fhW.lret hΓ (by decide +kernel) hk
  · rw [if_neg hc] at h
    refine fhW.blk fhPF fhLL hΓ [(.lload_n 0, 0)] (pc' := 7) (lv' := [(0, .long v0), (2, .long v2)]) (st' := [.long v0]) (σ' := σ) (by decide +kernel) rfl rfl rfl ?_
    refine fhW.goto hΓ (off := 4) (tgt := 11) (by decide +kernel) ?_
    subst h
    exact fhW.lret hΓ (by decide +kernel) hk
set_option maxRecDepth 100000 in
theorem T_J9_min_f86c9 {E : fhE} {d : Nat} (hE : fhEok fhYF E) (hd : 0 ≤ d) (v0 : Int64) (v2 : Int64)  (σ : fhM) : fhC fhYF E d miJ9_min_f86c9 [.long v0, .long v2] σ (some (.long (f_J9_min_f86c9 v0 v2 σ))) σ := by
  refine fhC.of (y := yJ9_min_f86c9) (cc := cJ9_min_f86c9) (nL := 4) (ret := (some .long)) 14 rfl (by decide +kernel) (Nat.le_of_ble_eq_true rfl) ?_
  intro Γ hΓ hR hD hEn
  subst hD; subst hEn
  exact L_J9_min_f86c9_E hE hΓ hd v0 v2  σ _ rfl hR
set_option maxRecDepth 100000 in
set_option maxHeartbeats 4000000 in
theorem L_J9_floorDiv_7cf53_E {Γ : fhX} (hE : fhEok fhYF (fhEn Γ)) (hΓ : fhOk fhYF 14 cJ9_floorDiv_7cf53 3 (some .int) Γ) (hd : 0 ≤ fhD Γ) (v0 : Int32) (v1 : Int32)  (σ : fhM) (o : Int32) (h : f_J9_floorDiv_7cf53 v0 v1 σ = some o) (hk : (fun o => fhRet Γ (some (.int o)) σ) o) : fhW fhYF Γ 0 [(0, .int v0), (1, .int v1)] [] σ := by
  unfold f_J9_floorDiv_7cf53 at h
  obtain ⟨hg1, h⟩ := fhif h
  refine fhW.blk fhPF fhLL hΓ [(.iload_n 0, 0), (.iload_n 1, 0), (.idiv, 0), (.istore_n 2, 0), (.iload_n 0, 0), (.iload_n 1, 0), (.ixor, 0)] (pc' := 7) (lv' := [(2, .int (v0 / v1)), (0, .int v0), (1, .int v1)]) (st' := [.int (v0 ^^^ v1)]) (σ' := σ) (by decide +kernel) rfl rfl hg1 ?_
  refine fhW.z_ge hΓ (tgt := 21) (show fhbk _ _ (.ifCond .ge (14)) _ = true by decide +kernel) (fun hc => ?_) (fun hc => ?_)
  · rw [if_pos hc] at h
    refine fhW.blk fhPF fhLL hΓ [(.iload_n 2, 0)] (pc' := 22) (lv' := [(2, .int (v0 / v1)), (0, .int v0), (1, .int v1)]) (st' := [.int (v0 / v1)]) (σ' := σ) (by decide +kernel) rfl rfl rfl ?_
    have e9 := Option.some.inj h
    subst e9
    exact fhW.iret hΓ (by decide +kernel) hk
  · rw [if_neg hc] at h
    refine fhW.blk fhPF fhLL hΓ [(.iload_n 2, 0), (.iload_n 1, 0), (.imul, 0), (.iload_n 0, 0)] (pc' := 14) (lv' := [(2, .int (v0 / v1)), (0, .int v0), (1, .int v1)]) (st' := [.int v0, .int ((v0 / v1) * v1)]) (σ' := σ) (by decide +kernel) rfl rfl rfl ?_
    refine fhW.i_eq hΓ (tgt := 21) (show fhbk _ _ (.if_icmp .eq (7)) _ = true by decide +kernel) (fun hc => ?_) (fun hc => ?_)
    · rw [if_pos hc] at h
      refine fhW.blk fhPF fhLL hΓ [(.iload_n 2, 0)] (pc' := 22) (lv' := [(2, .int (v0 / v1)), (0, .int v0), (1, .int v1)]) (st' := [.int (v0 / v1)]) (σ' := σ) (by decide +kernel) rfl rfl rfl ?_
      have e9 := Option.some.inj h
      subst e9
      exact fhW.iret hΓ (by decide +kernel) hk
    · rw [if_neg hc] at h
      refine fhW.blk fhPF fhLL hΓ [(.iload_n 2, 0), (.iconst 1, 1), (.isub, 0)] (pc' := 20) (lv' := [(2, .int (v0 / v1)), (0, .int v0), (1, .int v1)]) (st' := [.int ((v0 / v1) - (1 : Int32))]) (σ' := σ) (by decide +kernel) rfl rfl rfl ?_
      have e9 := Option.some.inj h
      subst e9
      exact fhW.iret hΓ (by decide +kernel) hk
set_option maxRecDepth 100000 in
theorem T_J9_floorDiv_7cf53 {E : fhE} {d : Nat} (hE : fhEok fhYF E) (hd : 0 ≤ d) (v0 : Int32) (v1 : Int32)  (σ : fhM) {o : Int32} (h : f_J9_floorDiv_7cf53 v0 v1 σ = some o) : fhC fhYF E d miJ9_floorDiv_7cf53 [.int v0, .int v1] σ (some (.int o)) σ := by
  refine fhC.of (y := yJ9_floorDiv_7cf53) (cc := cJ9_floorDiv_7cf53) (nL := 3) (ret := (some .int)) 14 rfl (by decide +kernel) (Nat.le_of_ble_eq_true rfl) ?_
  intro Γ hΓ hR hD hEn
  subst hD; subst hEn
  exact L_J9_floorDiv_7cf53_E hE hΓ hd v0 v1  σ _ h hR
set_option maxRecDepth 100000 in
set_option maxHeartbeats 4000000 in
theorem L_J6_bitCount_0f7a4_E {Γ : fhX} (hE : fhEok fhYF (fhEn Γ)) (hΓ : fhOk fhYF 13 cJ6_bitCount_0f7a4 1 (some .int) Γ) (hd : 0 ≤ fhD Γ) (v0 : Int32)  (σ : fhM) (o : Int32) (h : f_J6_bitCount_0f7a4 v0 σ = o) (hk : (fun o => fhRet Γ (some (.int o)) σ) o) : fhW fhYF Γ 0 [(0, .int v0)] [] σ := by
  unfold f_J6_bitCount_0f7a4 at h
  refine fhW.blk fhPF fhLL hΓ [(.iload_n 0, 0), (.iload_n 0, 0), (.iconst 1, 1), (.iushr, 0)] (pc' := 4) (lv' := [(0, .int v0)]) (st' := [.int (fhus v0 (1 : Int32)), .int v0]) (σ' := σ) (by decide +kernel) rfl rfl rfl ?_
  refine fhW.ldcw hΓ (v := 1431655765) (fhm (in_t (in_4 (List.mem_of_getElem? (i := 158) rfl))) rfl) (show decode _ _ = .ok (.ldc_w 265, 3) by decide +kernel) ?_
  refine fhW.blk fhPF fhLL hΓ [(.iand, 0), (.isub, 0), (.istore_n 0, 0)] (pc' := 10) (lv' := [(0, .int (v0 - ((fhus v0 (1 : Int32)) &&& (1431655765 : Int32))))]) (st' := []) (σ' := σ) (by decide +kernel) rfl rfl rfl ?_
  obtain ⟨w0_1, e1, h⟩ := fhlet_elim h
  rw [← e1]
  refine fhW.blk fhPF fhLL hΓ [(.iload_n 0, 0)] (pc' := 11) (lv' := [(0, .int w0_1)]) (st' := [.int w0_1]) (σ' := σ) (by decide +kernel) rfl rfl rfl ?_
  refine fhW.ldcw hΓ (v := 858993459) (fhm (in_t (in_4 (List.mem_of_getElem? (i := 159) rfl))) rfl) (show decode _ _ = .ok (.ldc_w 266, 3) by decide +kernel) ?_
  refine fhW.blk fhPF fhLL hΓ [(.iand, 0), (.iload_n 0, 0), (.iconst 2, 2), (.iushr, 0)] (pc' := 18) (lv' := [(0, .int w0_1)]) (st' := [.int (fhus w0_1 (2 : Int32)), .int (w0_1 &&& (858993459 : Int32))]) (σ' := σ) (by decide +kernel) rfl rfl rfl ?_
  refine fhW.ldcw hΓ (v := 858993459) (fhm (in_t (in_4 (List.mem_of_getElem? (i := 159) rfl))) rfl) (show decode _ _ = .ok (.ldc_w 266, 3) by decide +kernel) ?_
  refine fhW.blk fhPF fhLL hΓ [(.iand, 0), (.iadd, 0), (.istore_n 0, 0)] (pc' := 24) (lv' := [(0, .int ((w0_1 &&& (858993459 : Int32)) + ((fhus w0_1 (2 : Int32)) &&& (858993459 : Int32))))]) (st' := []) (σ' := σ) (by decide +kernel) rfl rfl rfl ?_
  obtain ⟨w0_2, e2, h⟩ := fhlet_elim h
  rw [← e2]
  refine fhW.blk fhPF fhLL hΓ [(.iload_n 0, 0), (.iload_n 0, 0), (.iconst 4, 4), (.iushr, 0), (.iadd, 0)] (pc' := 29) (lv' := [(0, .int w0_2)]) (st' := [.int (w0_2 + (fhus w0_2 (4 : Int32)))]) (σ' := σ) (by decide +kernel) rfl rfl rfl ?_
  refine fhW.ldcw hΓ (v := 252645135) (fhm (in_t (in_4 (List.mem_of_getElem? (i := 160) rfl))) rfl) (show decode _ _ = .ok (.ldc_w 267, 3) by decide +kernel) ?_
  refine fhW.blk fhPF fhLL hΓ [(.iand, 0), (.istore_n 0, 0)] (pc' := 34) (lv' := [(0, .int ((w0_2 + (fhus w0_2 (4 : Int32))) &&& (252645135 : Int32)))]) (st' := []) (σ' := σ) (by decide +kernel) rfl rfl rfl ?_
  obtain ⟨w0_3, e3, h⟩ := fhlet_elim h
  rw [← e3]
  refine fhW.blk fhPF fhLL hΓ [(.iload_n 0, 0), (.iload_n 0, 0), (.bipush 8, 8), (.iushr, 0), (.iadd, 0), (.istore_n 0, 0), (.iload_n 0, 0), (.iload_n 0, 0), (.bipush 16, 16), (.iushr, 0), (.iadd, 0), (.istore_n 0, 0)] (pc' := 48) (lv' := [(0, .int ((w0_3 + (fhus w0_3 (8 : Int32))) + (fhus (w0_3 + (fhus w0_3 (8 : Int32))) (16 : Int32))))]) (st' := []) (σ' := σ) (by decide +kernel) rfl rfl rfl ?_
  obtain ⟨w0_4, e4, h⟩ := fhlet_elim h
  rw [← e4]
  refine fhW.blk fhPF fhLL hΓ [(.iload_n 0, 0), (.bipush 63, 63), (.iand, 0)] (pc' := 52) (lv' := [(0, .int w0_4)]) (st' := [.int (w0_4 &&& (63 : Int32))]) (σ' := σ) (by decide +kernel) rfl rfl rfl ?_
  subst h
  exact fhW.iret hΓ (by decide +kernel) hk
set_option maxRecDepth 100000 in
theorem T_J6_bitCount_0f7a4 {E : fhE} {d : Nat} (hE : fhEok fhYF E) (hd : 0 ≤ d) (v0 : Int32)  (σ : fhM) : fhC fhYF E d miJ6_bitCount_0f7a4 [.int v0] σ (some (.int (f_J6_bitCount_0f7a4 v0 σ))) σ := by
  refine fhC.of (y := yJ6_bitCount_0f7a4) (cc := cJ6_bitCount_0f7a4) (nL := 1) (ret := (some .int)) 13 rfl (by decide +kernel) (Nat.le_of_ble_eq_true rfl) ?_
  intro Γ hΓ hR hD hEn
  subst hD; subst hEn
  exact L_J6_bitCount_0f7a4_E hE hΓ hd v0  σ _ rfl hR
set_option maxRecDepth 100000 in
set_option maxHeartbeats 4000000 in
theorem L_X11_refuse_E {Γ : fhX} (hE : fhEok fhYF (fhEn Γ)) (hΓ : fhOk fhYF 11 cX11_refuse 2 (some .int) Γ) (hd : 1 ≤ fhD Γ) (v1 : Int32)  (σ : fhM) (o : Int32 × fhM) (h : f_X11_refuse v1 σ = o) (hk : (fun o => fhRet Γ (some (.int o.1)) o.2) o) : fhW fhYF Γ 0 [(0, .ref 0), (1, .int v1)] [] σ := by
  unfold f_X11_refuse at h
  refine fhW.blk fhPF fhLL hΓ [(.aload_n 0, 0), (.getfield 93, 0), (.iload_n 1, 0), (.aload_n 0, 0), (.getfield 93, 0), (.iload_n 1, 0)] (pc' := 10) (lv' := [(0, .ref 0), (1, .int v1)]) (st' := [.int v1, .ref 100, .int v1, .ref 100]) (σ' := σ) (by decide +kernel) rfl rfl rfl ?_
  refine fhW.callv hΓ mvX2_get ml_11_117 (t := 100) (ci := 2) (av := [.int v1]) (rest := [.int v1, .ref 100]) (r := (some (.int (fcG σ 100 v1)))) (σ' := σ) (T_X2_get (E := fhEn Γ) (d := fhD Γ - 1) hE (by omega) 100 v1 rfl σ) (by omega) (by decide +kernel) rfl rfl rfl (Nat.le_of_ble_eq_true rfl) rfl ?_
  show fhW fhYF Γ 13 [(0, .ref 0), (1, .int v1)] [.int (fcG σ 100 v1), .int v1, .ref 100] σ
  refine fhW.blk fhPF fhLL hΓ [(.iconst 1, 1), (.iadd, 0)] (pc' := 15) (lv' := [(0, .ref 0), (1, .int v1)]) (st' := [.int ((fcG σ 100 v1) + (1 : Int32)), .int v1, .ref 100]) (σ' := σ) (by decide +kernel) rfl rfl rfl ?_
  refine fhW.callv hΓ mvX2_put ml_11_113 (t := 100) (ci := 2) (av := [.int v1, .int ((fcG σ 100 v1) + (1 : Int32))]) (rest := []) (r := none) (σ' := (fcP σ 100 v1 ((fcG σ 100 v1) + (1 : Int32)))) (T_X2_put (E := fhEn Γ) (d := fhD Γ - 1) hE (by omega) 100 v1 ((fcG σ 100 v1) + (1 : Int32)) rfl σ) (by omega) (by decide +kernel) rfl rfl rfl (Nat.le_of_ble_eq_true rfl) rfl ?_
  show fhW fhYF Γ 18 [(0, .ref 0), (1, .int v1)] [] (fcP σ 100 v1 ((fcG σ 100 v1) + (1 : Int32)))
  refine fhW.blk fhPF fhLL hΓ [(.iconst (-1), -1)] (pc' := 19) (lv' := [(0, .ref 0), (1, .int v1)]) (st' := [.int (-1 : Int32)]) (σ' := (fcP σ 100 v1 ((fcG σ 100 v1) + (1 : Int32)))) (by decide +kernel) rfl rfl rfl ?_
  subst h
  exact fhW.iret hΓ (by decide +kernel) hk
set_option maxRecDepth 100000 in
theorem T_X11_refuse {E : fhE} {d : Nat} (hE : fhEok fhYF E) (hd : 1 ≤ d) (v1 : Int32)  (σ : fhM) : fhC fhYF E d miX11_refuse [.ref 0, .int v1] σ (some (.int (f_X11_refuse v1 σ).1)) (f_X11_refuse v1 σ).2 := by
  refine fhC.of (y := yX11_refuse) (cc := cX11_refuse) (nL := 2) (ret := (some .int)) 11 rfl (by decide +kernel) (Nat.le_of_ble_eq_true rfl) ?_
  intro Γ hΓ hR hD hEn
  subst hD; subst hEn
  exact L_X11_refuse_E hE hΓ hd v1  σ _ rfl hR
set_option maxRecDepth 100000 in
set_option maxHeartbeats 4000000 in
theorem L_X11_putFour_3 {Γ : fhX} (hE : fhEok fhYF (fhEn Γ)) (hΓ : fhOk fhYF 11 cX11_putFour 3 none Γ) (hd : 1 ≤ fhD Γ) (v1 : Int32) (v2 : Int32)  (σ : fhM) (o : (Int32 × fhM) ⊕ (fhM)) (h : f_X11_putFour_3 v1 v2 σ = some o) (hk : (fhK (fun x => fhW fhYF Γ 3 [(0, .ref 0), (1, .int v1), (2, .int x.1)] [] x.2) (fun o => fhRet Γ none o)) o) : fhW fhYF Γ 3 [(0, .ref 0), (1, .int v1), (2, .int v2)] [] σ := by
  unfold f_X11_putFour_3 at h
  refine fhW.blk fhPF fhLL hΓ [(.iload_n 2, 0)] (pc' := 4) (lv' := [(0, .ref 0), (1, .int v1), (2, .int v2)]) (st' := [.int v2]) (σ' := σ) (by decide +kernel) rfl rfl rfl ?_
  refine fhW.z_lt hΓ (tgt := 41) (show fhbk _ _ (.ifCond .lt (37)) _ = true by decide +kernel) (fun hc => ?_) (fun hc => ?_)
  · rw [if_pos hc] at h
    have e9 := Option.some.inj h
    subst e9
    exact fhW.vret hΓ (by decide +kernel) hk
  · rw [if_neg hc] at h
    refine fhW.blk fhPF fhLL hΓ [(.aload_n 0, 0), (.getfield 14, 0), (.aload_n 0, 0), (.getfield 103, 0), (.iload_n 1, 0), (.iload_n 2, 0), (.iushr, 0), (.sipush 255, 255), (.iand, 0)] (pc' := 22) (lv' := [(0, .ref 0), (1, .int v1), (2, .int v2)]) (st' := [.int ((fhus v1 v2) &&& (255 : Int32)), .int (σ.1 0 1), .ref 1]) (σ' := σ) (by decide +kernel) rfl rfl rfl ?_
    refine fhW.callv hΓ mvX2_put ml_11_113 (t := 1) (ci := 2) (av := [.int (σ.1 0 1), .int ((fhus v1 v2) &&& (255 : Int32))]) (rest := []) (r := none) (σ' := (fcP σ 1 (σ.1 0 1) ((fhus v1 v2) &&& (255 : Int32)))) (T_X2_put (E := fhEn Γ) (d := fhD Γ - 1) hE (by omega) 1 (σ.1 0 1) ((fhus v1 v2) &&& (255 : Int32)) rfl σ) (by omega) (by decide +kernel) rfl rfl rfl (Nat.le_of_ble_eq_true rfl) rfl ?_
    show fhW fhYF Γ 25 [(0, .ref 0), (1, .int v1), (2, .int v2)] [] (fcP σ 1 (σ.1 0 1) ((fhus v1 v2) &&& (255 : Int32)))
    refine fhW.blk fhPF fhLL hΓ [(.aload_n 0, 0), (.dup, 0), (.getfield 103, 0), (.iconst 1, 1), (.iadd, 0), (.putfield 103, 0), (.iinc 2 (-8), -8)] (pc' := 38) (lv' := [(2, .int (v2 + (-8 : Int32))), (0, .ref 0), (1, .int v1)]) (st' := []) (σ' := (fhI (fcP σ 1 (σ.1 0 1) ((fhus v1 v2) &&& (255 : Int32))) 0 1 ((σ.1 0 1) + (1 : Int32)))) (by decide +kernel) rfl rfl rfl ?_
    refine fhW.goto hΓ (off := (-35)) (tgt := 3) (by decide +kernel) ?_
    refine fhW.sub (lv' := [(0, .ref 0), (1, .int v1), (2, .int (v2 + (-8 : Int32)))]) [1, 2, 0] rfl ?_
    have e9 := Option.some.inj h
    subst e9
    exact hk
set_option maxRecDepth 100000 in
set_option maxHeartbeats 4000000 in
theorem L_X11_putFour_E {Γ : fhX} (hE : fhEok fhYF (fhEn Γ)) (hΓ : fhOk fhYF 11 cX11_putFour 3 none Γ) (hd : 1 ≤ fhD Γ) (v1 : Int32)  (σ : fhM) (o : fhM) (h : f_X11_putFour v1 σ = some o) (hk : (fun o => fhRet Γ none o) o) : fhW fhYF Γ 0 [(0, .ref 0), (1, .int v1)] [] σ := by
  unfold f_X11_putFour at h
  refine fhW.blk fhPF fhLL hΓ [(.bipush 24, 24), (.istore_n 2, 0)] (pc' := 3) (lv' := [(2, .int (24 : Int32)), (0, .ref 0), (1, .int v1)]) (st' := []) (σ' := σ) (by decide +kernel) rfl rfl rfl ?_
  refine fhW.sub (lv' := [(0, .ref 0), (1, .int v1), (2, .int (24 : Int32))]) [1, 2, 0] rfl ?_
  exact fhlp_ok (W := (fun x => fhW fhYF Γ 3 [(0, .ref 0), (1, .int v1), (2, .int x.1)] [] x.2)) (B := (fun o => fhRet Γ none o)) (fun x o h hk => L_X11_putFour_3 hE hΓ hd v1 x.1 x.2 o h hk) ((24 : Int32), σ) _ h hk
set_option maxRecDepth 100000 in
theorem T_X11_putFour {E : fhE} {d : Nat} (hE : fhEok fhYF E) (hd : 1 ≤ d) (v1 : Int32)  (σ : fhM) {o : fhM} (h : f_X11_putFour v1 σ = some o) : fhC fhYF E d miX11_putFour [.ref 0, .int v1] σ none o := by
  refine fhC.of (y := yX11_putFour) (cc := cX11_putFour) (nL := 3) (ret := none) 11 rfl (by decide +kernel) (Nat.le_of_ble_eq_true rfl) ?_
  intro Γ hΓ hR hD hEn
  subst hD; subst hEn
  exact L_X11_putFour_E hE hΓ hd v1  σ _ h hR
set_option maxRecDepth 100000 in
set_option maxHeartbeats 4000000 in
theorem L_X11_feed_E {Γ : fhX} (hE : fhEok fhYF (fhEn Γ)) (hΓ : fhOk fhYF 11 cX11_feed 6 (some .int) Γ) (hd : 2 ≤ fhD Γ) (v1 : Int32) (v2 : Int32) (v3 : Int32) (v4 : Int32) (v5 : Int32)  (σ : fhM) (o : Int32 × fhM) (h : f_X11_feed v1 v2 v3 v4 v5 σ = some o) (hk : (fun o => fhRet Γ (some (.int o.1)) o.2) o) : fhW fhYF Γ 0 [(0, .ref 0), (1, .int v1), (2, .int v2), (3, .int v3), (4, .int v4), (5, .int v5)] [] σ := by
  unfold f_X11_feed at h
  refine fhW.blk fhPF fhLL hΓ [(.aload_n 0, 0), (.getfield 103, 0), (.bipush 20, 20), (.iadd, 0), (.sipush 1600, 1600)] (pc' := 10) (lv' := [(0, .ref 0), (1, .int v1), (2, .int v2), (3, .int v3), (4, .int v4), (5, .int v5)]) (st' := [.int (1600 : Int32), .int ((σ.1 0 1) + (20 : Int32))]) (σ' := σ) (by decide +kernel) rfl rfl rfl ?_
  refine fhW.i_le hΓ (tgt := 19) (show fhbk _ _ (.if_icmp .le (9)) _ = true by decide +kernel) (fun hc => ?_) (fun hc => ?_)
  · rw [if_pos hc] at h
    refine fhW.blk fhPF fhLL hΓ [(.aload_n 0, 0), (.iload_n 1, 0)] (pc' := 21) (lv' := [(0, .ref 0), (1, .int v1), (2, .int v2), (3, .int v3), (4, .int v4), (5, .int v5)]) (st' := [.int v1, .ref 0]) (σ' := σ) (by decide +kernel) rfl rfl rfl ?_
    obtain ⟨q1, hb1, h⟩ := Option.bind_eq_some_iff.mp h
    refine fhW.callv hΓ mvX11_putFour ml_11_110 (t := 0) (ci := 11) (av := [.int v1]) (rest := []) (r := none) (σ' := q1) (T_X11_putFour (E := fhEn Γ) (d := fhD Γ - 1) hE (by omega) v1 σ hb1) (by omega) (by decide +kernel) rfl rfl rfl (Nat.le_of_ble_eq_true rfl) rfl ?_
    show fhW fhYF Γ 24 [(0, .ref 0), (1, .int v1), (2, .int v2), (3, .int v3), (4, .int v4), (5, .int v5)] [] q1
    refine fhW.blk fhPF fhLL hΓ [(.aload_n 0, 0), (.iload_n 2, 0)] (pc' := 26) (lv' := [(0, .ref 0), (1, .int v1), (2, .int v2), (3, .int v3), (4, .int v4), (5, .int v5)]) (st' := [.int v2, .ref 0]) (σ' := q1) (by decide +kernel) rfl rfl rfl ?_
    obtain ⟨q2, hb2, h⟩ := Option.bind_eq_some_iff.mp h
    refine fhW.callv hΓ mvX11_putFour ml_11_110 (t := 0) (ci := 11) (av := [.int v2]) (rest := []) (r := none) (σ' := q2) (T_X11_putFour (E := fhEn Γ) (d := fhD Γ - 1) hE (by omega) v2 q1 hb2) (by omega) (by decide +kernel) rfl rfl rfl (Nat.le_of_ble_eq_true rfl) rfl ?_
    show fhW fhYF Γ 29 [(0, .ref 0), (1, .int v1), (2, .int v2), (3, .int v3), (4, .int v4), (5, .int v5)] [] q2
    refine fhW.blk fhPF fhLL hΓ [(.aload_n 0, 0), (.iload_n 3, 0)] (pc' := 31) (lv' := [(0, .ref 0), (1, .int v1), (2, .int v2), (3, .int v3), (4, .int v4), (5, .int v5)]) (st' := [.int v3, .ref 0]) (σ' := q2) (by decide +kernel) rfl rfl rfl ?_
    obtain ⟨q3, hb3, h⟩ := Option.bind_eq_some_iff.mp h
    refine fhW.callv hΓ mvX11_putFour ml_11_110 (t := 0) (ci := 11) (av := [.int v3]) (rest := []) (r := none) (σ' := q3) (T_X11_putFour (E := fhEn Γ) (d := fhD Γ - 1) hE (by omega) v3 q2 hb3) (by omega) (by decide +kernel) rfl rfl rfl (Nat.le_of_ble_eq_true rfl) rfl ?_
    show fhW fhYF Γ 34 [(0, .ref 0), (1, .int v1), (2, .int v2), (3, .int v3), (4, .int v4), (5, .int v5)] [] q3
    refine fhW.blk fhPF fhLL hΓ [(.aload_n 0, 0), (.iload 4, 0)] (pc' := 37) (lv' := [(0, .ref 0), (1, .int v1), (2, .int v2), (3, .int v3), (4, .int v4), (5, .int v5)]) (st' := [.int v4, .ref 0]) (σ' := q3) (by decide +kernel) rfl rfl rfl ?_
    obtain ⟨q4, hb4, h⟩ := Option.bind_eq_some_iff.mp h
    refine fhW.callv hΓ mvX11_putFour ml_11_110 (t := 0) (ci := 11) (av := [.int v4]) (rest := []) (r := none) (σ' := q4) (T_X11_putFour (E := fhEn Γ) (d := fhD Γ - 1) hE (by omega) v4 q3 hb4) (by omega) (by decide +kernel) rfl rfl rfl (Nat.le_of_ble_eq_true rfl) rfl ?_
    show fhW fhYF Γ 40 [(0, .ref 0), (1, .int v1), (2, .int v2), (3, .int v3), (4, .int v4), (5, .int v5)] [] q4
    refine fhW.blk fhPF fhLL hΓ [(.aload_n 0, 0), (.iload 5, 0)] (pc' := 43) (lv' := [(0, .ref 0), (1, .int v1), (2, .int v2), (3, .int v3), (4, .int v4), (5, .int v5)]) (st' := [.int v5, .ref 0]) (σ' := q4) (by decide +kernel) rfl rfl rfl ?_
    obtain ⟨q5, hb5, h⟩ := Option.bind_eq_some_iff.mp h
    refine fhW.callv hΓ mvX11_putFour ml_11_110 (t := 0) (ci := 11) (av := [.int v5]) (rest := []) (r := none) (σ' := q5) (T_X11_putFour (E := fhEn Γ) (d := fhD Γ - 1) hE (by omega) v5 q4 hb5) (by omega) (by decide +kernel) rfl rfl rfl (Nat.le_of_ble_eq_true rfl) rfl ?_
    show fhW fhYF Γ 46 [(0, .ref 0), (1, .int v1), (2, .int v2), (3, .int v3), (4, .int v4), (5, .int v5)] [] q5
    refine fhW.blk fhPF fhLL hΓ [(.aload_n 0, 0), (.getfield 103, 0)] (pc' := 50) (lv' := [(0, .ref 0), (1, .int v1), (2, .int v2), (3, .int v3), (4, .int v4), (5, .int v5)]) (st' := [.int (q5.1 0 1)]) (σ' := q5) (by decide +kernel) rfl rfl rfl ?_
    have e9 := Option.some.inj h
    subst e9
    exact fhW.iret hΓ (by decide +kernel) hk
  · rw [if_neg hc] at h
    refine fhW.blk fhPF fhLL hΓ [(.aload_n 0, 0), (.iconst 0, 0)] (pc' := 15) (lv' := [(0, .ref 0), (1, .int v1), (2, .int v2), (3, .int v3), (4, .int v4), (5, .int v5)]) (st' := [.int (0 : Int32), .ref 0]) (σ' := σ) (by decide +kernel) rfl rfl rfl ?_
    refine fhW.callv hΓ mvX11_refuse ml_11_106 (t := 0) (ci := 11) (av := [.int (0 : Int32)]) (rest := []) (r := (some (.int (f_X11_refuse (0 : Int32) σ).1))) (σ' := (f_X11_refuse (0 : Int32) σ).2) (T_X11_refuse (E := fhEn Γ) (d := fhD Γ - 1) hE (by omega) (0 : Int32) σ) (by omega) (by decide +kernel) rfl rfl rfl (Nat.le_of_ble_eq_true rfl) rfl ?_
    show fhW fhYF Γ 18 [(0, .ref 0), (1, .int v1), (2, .int v2), (3, .int v3), (4, .int v4), (5, .int v5)] [.int (f_X11_refuse (0 : Int32) σ).1] (f_X11_refuse (0 : Int32) σ).2
    obtain ⟨q6, e1, h⟩ := fhlet_elim h
    rw [← e1]
    have e9 := Option.some.inj h
    subst e9
    exact fhW.iret hΓ (by decide +kernel) hk
set_option maxRecDepth 100000 in
theorem T_X11_feed {E : fhE} {d : Nat} (hE : fhEok fhYF E) (hd : 2 ≤ d) (v1 : Int32) (v2 : Int32) (v3 : Int32) (v4 : Int32) (v5 : Int32)  (σ : fhM) {o : Int32 × fhM} (h : f_X11_feed v1 v2 v3 v4 v5 σ = some o) : fhC fhYF E d miX11_feed [.ref 0, .int v1, .int v2, .int v3, .int v4, .int v5] σ (some (.int o.1)) o.2 := by
  refine fhC.of (y := yX11_feed) (cc := cX11_feed) (nL := 6) (ret := (some .int)) 11 rfl (by decide +kernel) (Nat.le_of_ble_eq_true rfl) ?_
  intro Γ hΓ hR hD hEn
  subst hD; subst hEn
  exact L_X11_feed_E hE hΓ hd v1 v2 v3 v4 v5  σ _ h hR
set_option maxRecDepth 100000 in
set_option maxHeartbeats 4000000 in
theorem L_X11_end_12 {Γ : fhX} (hE : fhEok fhYF (fhEn Γ)) (hΓ : fhOk fhYF 11 cX11_end 2 (some .boolean) Γ) (hd : 2 ≤ fhD Γ)   (σ : fhM) (o : Bool × fhM) (h : f_X11_end_12 σ = o) (hk : (fun o => fhRet Γ (some (.int (fhb o.1))) o.2) o) : fhW fhYF Γ 12 [(0, .ref 0)] [] σ := by
  unfold f_X11_end_12 at h
  refine fhW.blk fhPF fhLL hΓ [(.aload_n 0, 0), (.iconst 0, 0)] (pc' := 14) (lv' := [(0, .ref 0)]) (st' := [.int (0 : Int32), .ref 0]) (σ' := σ) (by decide +kernel) rfl rfl rfl ?_
  refine fhW.callv hΓ mvX11_refuse ml_11_106 (t := 0) (ci := 11) (av := [.int (0 : Int32)]) (rest := []) (r := (some (.int (f_X11_refuse (0 : Int32) σ).1))) (σ' := (f_X11_refuse (0 : Int32) σ).2) (T_X11_refuse (E := fhEn Γ) (d := fhD Γ - 1) hE (by omega) (0 : Int32) σ) (by omega) (by decide +kernel) rfl rfl rfl (Nat.le_of_ble_eq_true rfl) rfl ?_
  show fhW fhYF Γ 17 [(0, .ref 0)] [.int (f_X11_refuse (0 : Int32) σ).1] (f_X11_refuse (0 : Int32) σ).2
  obtain ⟨q1, e1, h⟩ := fhlet_elim h
  rw [← e1]
  refine fhW.blk fhPF fhLL hΓ [(.pop, 0), (.iconst 0, 0)] (pc' := 19) (lv' := [(0, .ref 0)]) (st' := [.int (0 : Int32)]) (σ' := q1.2) (by decide +kernel) rfl rfl rfl ?_
  subst h
  exact fhW.zret (v := false) hΓ (by decide +kernel) hk
set_option maxRecDepth 100000 in
set_option maxHeartbeats 4000000 in
theorem L_X11_end_E {Γ : fhX} (hE : fhEok fhYF (fhEn Γ)) (hΓ : fhOk fhYF 11 cX11_end 2 (some .boolean) Γ) (hd : 2 ≤ fhD Γ) (v1 : Int32)  (σ : fhM) (o : Bool × fhM) (h : f_X11_end v1 σ = o) (hk : (fun o => fhRet Γ (some (.int (fhb o.1))) o.2) o) : fhW fhYF Γ 0 [(0, .ref 0), (1, .int v1)] [] σ := by
  unfold f_X11_end at h
  refine fhW.blk fhPF fhLL hΓ [(.iload_n 1, 0)] (pc' := 1) (lv' := [(0, .ref 0), (1, .int v1)]) (st' := [.int v1]) (σ' := σ) (by decide +kernel) rfl rfl rfl ?_
  refine fhW.z_lt hΓ (tgt := 12) (show fhbk _ _ (.ifCond .lt (11)) _ = true by decide +kernel) (fun hc => ?_) (fun hc => ?_)
  · rw [if_pos hc] at h
    refine fhW.sub (lv' := [(0, .ref 0)]) [0] rfl ?_
    exact L_X11_end_12 hE hΓ hd σ _ h hk
  · rw [if_neg hc] at h
    refine fhW.blk fhPF fhLL hΓ [(.iload_n 1, 0), (.aload_n 0, 0), (.getfield 103, 0)] (pc' := 9) (lv' := [(0, .ref 0), (1, .int v1)]) (st' := [.int (σ.1 0 1), .int v1]) (σ' := σ) (by decide +kernel) rfl rfl rfl ?_
    refine fhW.i_le hΓ (tgt := 20) (show fhbk _ _ (.if_icmp .le (11)) _ = true by decide +kernel) (fun hc => ?_) (fun hc => ?_)
    · rw [if_pos hc] at h
      refine fhW.blk fhPF fhLL hΓ [(.aload_n 0, 0), (.iload_n 1, 0), (.putfield 103, 0), (.iconst 1, 1)] (pc' := 26) (lv' := [(0, .ref 0), (1, .int v1)]) (st' := [.int (1 : Int32)]) (σ' := (fhI σ 0 1 v1)) (by decide +kernel) rfl rfl rfl ?_
      subst h
      exact fhW.zret (v := true) hΓ (by decide +kernel) hk
    · rw [if_neg hc] at h
      refine fhW.sub (lv' := [(0, .ref 0)]) [0] rfl ?_
      exact L_X11_end_12 hE hΓ hd σ _ h hk
set_option maxRecDepth 100000 in
theorem T_X11_end {E : fhE} {d : Nat} (hE : fhEok fhYF E) (hd : 2 ≤ d) (v1 : Int32)  (σ : fhM) : fhC fhYF E d miX11_end [.ref 0, .int v1] σ (some (.int (fhb (f_X11_end v1 σ).1))) (f_X11_end v1 σ).2 := by
  refine fhC.of (y := yX11_end) (cc := cX11_end) (nL := 2) (ret := (some .boolean)) 11 rfl (by decide +kernel) (Nat.le_of_ble_eq_true rfl) ?_
  intro Γ hΓ hR hD hEn
  subst hD; subst hEn
  exact L_X11_end_E hE hΓ hd v1  σ _ rfl hR
set_option maxRecDepth 100000 in
set_option maxHeartbeats 4000000 in
theorem L_X11_takeTape_E {Γ : fhX} (hE : fhEok fhYF (fhEn Γ)) (hΓ : fhOk fhYF 11 cX11_takeTape 2 (some .int) Γ) (hd : 0 ≤ fhD Γ)   (σ : fhM) (o : Int32 × fhM) (h : f_X11_takeTape σ = o) (hk : (fun o => fhRet Γ (some (.int o.1)) o.2) o) : fhW fhYF Γ 0 [(0, .ref 0)] [] σ := by
  unfold f_X11_takeTape at h
  refine fhW.blk fhPF fhLL hΓ [(.aload_n 0, 0), (.getfield 103, 0), (.istore_n 1, 0), (.aload_n 0, 0), (.iconst 0, 0), (.putfield 103, 0), (.iload_n 1, 0)] (pc' := 11) (lv' := [(1, .int (σ.1 0 1)), (0, .ref 0)]) (st' := [.int (σ.1 0 1)]) (σ' := (fhI σ 0 1 (0 : Int32))) (by decide +kernel) rfl rfl rfl ?_
  subst h
  exact fhW.iret hΓ (by decide +kernel) hk
set_option maxRecDepth 100000 in
theorem T_X11_takeTape {E : fhE} {d : Nat} (hE : fhEok fhYF E) (hd : 0 ≤ d)   (σ : fhM) : fhC fhYF E d miX11_takeTape [.ref 0] σ (some (.int (f_X11_takeTape σ).1)) (f_X11_takeTape σ).2 := by
  refine fhC.of (y := yX11_takeTape) (cc := cX11_takeTape) (nL := 2) (ret := (some .int)) 11 rfl (by decide +kernel) (Nat.le_of_ble_eq_true rfl) ?_
  intro Γ hΓ hR hD hEn
  subst hD; subst hEn
  exact L_X11_takeTape_E hE hΓ hd   σ _ rfl hR
set_option maxRecDepth 100000 in
set_option maxHeartbeats 4000000 in
theorem L_X7_forget_E {Γ : fhX} (hE : fhEok fhYF (fhEn Γ)) (hΓ : fhOk fhYF 7 cX7_forget 1 none Γ) (hd : 1 ≤ fhD Γ) (v0 : Nat) (hv0 : fhiP v0 = true) (σ : fhM) (o : fhM) (h : f_X7_forget v0 σ = o) (hk : (fun o => fhRet Γ none o) o) : fhW fhYF Γ 0 [(0, .ref v0)] [] σ := by
  unfold f_X7_forget at h
  refine fhW.blk fhPF fhLL hΓ [(.aload_n 0, 0), (.iconst 0, 0), (.putfield 64, 0), (.aload_n 0, 0), (.iconst 0, 0), (.putfield 74, 0), (.aload_n 0, 0), (.iconst 0, 0), (.putfield 77, 0), (.aload_n 0, 0), (.iconst 0, 0), (.putfield 90, 0), (.aload_n 0, 0), (.iconst 0, 0), (.putfield 93, 0), (.aload_n 0, 0), (.iconst 0, 0), (.putfield 96, 0), (.aload_n 0, 0), (.iconst 0, 0), (.putfield 71, 0), (.aload_n 0, 0), (.iconst 1, 1), (.putfield 99, 0), (.aload_n 0, 0), (.getfield 12, 0), (.iconst 0, 0), (.putfield 102, 0), (.aload_n 0, 0), (.getfield 23, 0)] (pc' := 52) (lv' := [(0, .ref v0)]) (st' := [.ref (v0 + 4)]) (σ' := (fhI (fhI (fhI (fhI (fhI (fhI (fhI (fhI (fhI σ v0 8 (0 : Int32)) v0 9 (0 : Int32)) v0 10 (0 : Int32)) v0 11 (0 : Int32)) v0 12 (0 : Int32)) v0 13 (0 : Int32)) v0 14 (0 : Int32)) v0 6 (1 : Int32)) (v0 + 1) 1 (0 : Int32))) (by decide +kernel) rfl rfl (by rcases fhiP_or hv0 with rfl | rfl <;> rfl) ?_
  refine fhW.callv hΓ mvX2_wipe ml_7_105 (t := (v0 + 4)) (ci := 2) (av := []) (rest := []) (r := none) (σ' := (fcW (fhI (fhI (fhI (fhI (fhI (fhI (fhI (fhI (fhI σ v0 8 (0 : Int32)) v0 9 (0 : Int32)) v0 10 (0 : Int32)) v0 11 (0 : Int32)) v0 12 (0 : Int32)) v0 13 (0 : Int32)) v0 14 (0 : Int32)) v0 6 (1 : Int32)) (v0 + 1) 1 (0 : Int32)) (v0 + 4))) (T_X2_wipe (E := fhEn Γ) (d := fhD Γ - 1) hE (by omega) (v0 + 4) (fhiP_ind (p := fun q => fhiC (q + 4) = true) hv0 rfl rfl) (fhI (fhI (fhI (fhI (fhI (fhI (fhI (fhI (fhI σ v0 8 (0 : Int32)) v0 9 (0 : Int32)) v0 10 (0 : Int32)) v0 11 (0 : Int32)) v0 12 (0 : Int32)) v0 13 (0 : Int32)) v0 14 (0 : Int32)) v0 6 (1 : Int32)) (v0 + 1) 1 (0 : Int32))) (by omega) (by decide +kernel) rfl (fhiC_g (fhiP_ind (p := fun q => fhiC (q + 4) = true) hv0 rfl rfl)) rfl (Nat.le_of_ble_eq_true rfl) rfl ?_
  show fhW fhYF Γ 55 [(0, .ref v0)] [] (fcW (fhI (fhI (fhI (fhI (fhI (fhI (fhI (fhI (fhI σ v0 8 (0 : Int32)) v0 9 (0 : Int32)) v0 10 (0 : Int32)) v0 11 (0 : Int32)) v0 12 (0 : Int32)) v0 13 (0 : Int32)) v0 14 (0 : Int32)) v0 6 (1 : Int32)) (v0 + 1) 1 (0 : Int32)) (v0 + 4))
  subst h
  exact fhW.vret hΓ (by decide +kernel) hk
set_option maxRecDepth 100000 in
theorem T_X7_forget {E : fhE} {d : Nat} (hE : fhEok fhYF E) (hd : 1 ≤ d) (v0 : Nat) (hv0 : fhiP v0 = true) (σ : fhM) : fhC fhYF E d miX7_forget [.ref v0] σ none (f_X7_forget v0 σ) := by
  refine fhC.of (y := yX7_forget) (cc := cX7_forget) (nL := 1) (ret := none) 7 rfl (by decide +kernel) (Nat.le_of_ble_eq_true rfl) ?_
  intro Γ hΓ hR hD hEn
  subst hD; subst hEn
  exact L_X7_forget_E hE hΓ hd v0 hv0 σ _ rfl hR
set_option maxRecDepth 100000 in
set_option maxHeartbeats 4000000 in
theorem L_X8_sortOf_14 {Γ : fhX} (hE : fhEok fhYF (fhEn Γ)) (hΓ : fhOk fhYF 8 cX8_sortOf 1 (some .int) Γ) (hd : 0 ≤ fhD Γ) (v0 : Int32)  (σ : fhM) (o : Int32) (h : f_X8_sortOf_14 v0 σ = o) (hk : (fun o => fhRet Γ (some (.int o)) σ) o) : fhW fhYF Γ 14 [(0, .int v0)] [] σ := by
  unfold f_X8_sortOf_14 at h
  refine fhW.blk fhPF fhLL hΓ [(.iload_n 0, 0), (.bipush 48, 48)] (pc' := 17) (lv' := [(0, .int v0)]) (st' := [.int (48 : Int32), .int v0]) (σ' := σ) (by decide +kernel) rfl rfl rfl ?_
  refine fhW.i_lt hΓ (tgt := 30) (show fhbk _ _ (.if_icmp .lt (13)) _ = true by decide +kernel) (fun hc => ?_) (fun hc => ?_)
  · rw [if_pos hc] at h
    refine fhW.blk fhPF fhLL hΓ [(.iconst 3, 3)] (pc' := 31) (lv' := [(0, .int v0)]) (st' := [.int (3 : Int32)]) (σ' := σ) (by decide +kernel) rfl rfl rfl ?_
    subst h
    exact fhW.iret hΓ (by decide +kernel) hk
  · rw [if_neg hc] at h
    refine fhW.blk fhPF fhLL hΓ [(.iload_n 0, 0), (.bipush 57, 57)] (pc' := 23) (lv' := [(0, .int v0)]) (st' := [.int (57 : Int32), .int v0]) (σ' := σ) (by decide +kernel) rfl rfl rfl ?_
    refine fhW.i_gt hΓ (tgt := 30) (show fhbk _ _ (.if_icmp .gt (7)) _ = true by decide +kernel) (fun hc => ?_) (fun hc => ?_)
    · rw [if_pos hc] at h
      refine fhW.blk fhPF fhLL hΓ [(.iconst 3, 3)] (pc' := 31) (lv' := [(0, .int v0)]) (st' := [.int (3 : Int32)]) (σ' := σ) (by decide +kernel) rfl rfl rfl ?_
      subst h
      exact fhW.iret hΓ (by decide +kernel) hk
    · rw [if_neg hc] at h
      refine fhW.blk fhPF fhLL hΓ [(.iconst 2, 2)] (pc' := 27) (lv' := [(0, .int v0)]) (st' := [.int (2 : Int32)]) (σ' := σ) (by decide +kernel) rfl rfl rfl ?_
      refine fhW.goto hΓ (off := 4) (tgt := 31) (by decide +kernel) ?_
      subst h
      exact fhW.iret hΓ (by decide +kernel) hk
set_option maxRecDepth 100000 in
set_option maxHeartbeats 4000000 in
theorem L_X8_sortOf_E {Γ : fhX} (hE : fhEok fhYF (fhEn Γ)) (hΓ : fhOk fhYF 8 cX8_sortOf 1 (some .int) Γ) (hd : 0 ≤ fhD Γ) (v0 : Int32)  (σ : fhM) (o : Int32) (h : f_X8_sortOf v0 σ = o) (hk : (fun o => fhRet Γ (some (.int o)) σ) o) : fhW fhYF Γ 0 [(0, .int v0)] [] σ := by
  unfold f_X8_sortOf at h
  refine fhW.blk fhPF fhLL hΓ [(.iload_n 0, 0), (.bipush 97, 97)] (pc' := 3) (lv' := [(0, .int v0)]) (st' := [.int (97 : Int32), .int v0]) (σ' := σ) (by decide +kernel) rfl rfl rfl ?_
  refine fhW.i_lt hΓ (tgt := 14) (show fhbk _ _ (.if_icmp .lt (11)) _ = true by decide +kernel) (fun hc => ?_) (fun hc => ?_)
  · rw [if_pos hc] at h
    refine fhW.sub (lv' := [(0, .int v0)]) [0] rfl ?_
    exact L_X8_sortOf_14 hE hΓ hd v0 σ _ h hk
  · rw [if_neg hc] at h
    refine fhW.blk fhPF fhLL hΓ [(.iload_n 0, 0), (.bipush 122, 122)] (pc' := 9) (lv' := [(0, .int v0)]) (st' := [.int (122 : Int32), .int v0]) (σ' := σ) (by decide +kernel) rfl rfl rfl ?_
    refine fhW.i_gt hΓ (tgt := 14) (show fhbk _ _ (.if_icmp .gt (5)) _ = true by decide +kernel) (fun hc => ?_) (fun hc => ?_)
    · rw [if_pos hc] at h
      refine fhW.sub (lv' := [(0, .int v0)]) [0] rfl ?_
      exact L_X8_sortOf_14 hE hΓ hd v0 σ _ h hk
    · rw [if_neg hc] at h
      refine fhW.blk fhPF fhLL hΓ [(.iconst 1, 1)] (pc' := 13) (lv' := [(0, .int v0)]) (st' := [.int (1 : Int32)]) (σ' := σ) (by decide +kernel) rfl rfl rfl ?_
      subst h
      exact fhW.iret hΓ (by decide +kernel) hk
set_option maxRecDepth 100000 in
theorem T_X8_sortOf {E : fhE} {d : Nat} (hE : fhEok fhYF E) (hd : 0 ≤ d) (v0 : Int32)  (σ : fhM) : fhC fhYF E d miX8_sortOf [.int v0] σ (some (.int (f_X8_sortOf v0 σ))) σ := by
  refine fhC.of (y := yX8_sortOf) (cc := cX8_sortOf) (nL := 1) (ret := (some .int)) 8 rfl (by decide +kernel) (Nat.le_of_ble_eq_true rfl) ?_
  intro Γ hΓ hR hD hEn
  subst hD; subst hEn
  exact L_X8_sortOf_E hE hΓ hd v0  σ _ rfl hR
set_option maxRecDepth 100000 in
set_option maxHeartbeats 4000000 in
theorem L_X8_packLetters_5 {Γ : fhX} (hE : fhEok fhYF (fhEn Γ)) (hΓ : fhOk fhYF 8 cX8_packLetters 5 (some .int) Γ) (hd : 1 ≤ fhD Γ) (v0 : Nat) (v1 : Int32) (v2 : Int32) (v3 : Int32) (v4 : Int32) (hv0 : fhiC v0 = true) (σ : fhM) (o : (Int32 × Int32) ⊕ (Int32)) (h : f_X8_packLetters_5 v0 v1 v2 v3 v4 σ = some o) (hk : (fhK (fun x => fhW fhYF Γ 5 [(0, .ref v0), (1, .int v1), (2, .int v2), (3, .int x.1), (4, .int x.2)] [] σ) (fun o => fhRet Γ (some (.int o)) σ)) o) : fhW fhYF Γ 5 [(0, .ref v0), (1, .int v1), (2, .int v2), (3, .int v3), (4, .int v4)] [] σ := by
  unfold f_X8_packLetters_5 at h
  refine fhW.blk fhPF fhLL hΓ [(.iload 4, 0), (.iload_n 2, 0)] (pc' := 8) (lv' := [(0, .ref v0), (1, .int v1), (2, .int v2), (3, .int v3), (4, .int v4)]) (st' := [.int v2, .int v4]) (σ' := σ) (by decide +kernel) rfl rfl rfl ?_
  refine fhW.i_ge hΓ (tgt := 46) (show fhbk _ _ (.if_icmp .ge (38)) _ = true by decide +kernel) (fun hc => ?_) (fun hc => ?_)
  · rw [if_pos hc] at h
    refine fhW.blk fhPF fhLL hΓ [(.iload_n 3, 0)] (pc' := 47) (lv' := [(0, .ref v0), (1, .int v1), (2, .int v2), (3, .int v3), (4, .int v4)]) (st' := [.int v3]) (σ' := σ) (by decide +kernel) rfl rfl rfl ?_
    have e9 := Option.some.inj h
    subst e9
    exact fhW.iret hΓ (by decide +kernel) hk
  · rw [if_neg hc] at h
    refine fhW.blk fhPF fhLL hΓ [(.iload_n 2, 0), (.iload_n 1, 0), (.isub, 0), (.bipush 6, 6)] (pc' := 16) (lv' := [(0, .ref v0), (1, .int v1), (2, .int v2), (3, .int v3), (4, .int v4)]) (st' := [.int (6 : Int32), .int (v2 - v1)]) (σ' := σ) (by decide +kernel) rfl rfl rfl ?_
    refine fhW.i_gt hΓ (tgt := 46) (show fhbk _ _ (.if_icmp .gt (30)) _ = true by decide +kernel) (fun hc => ?_) (fun hc => ?_)
    · rw [if_pos hc] at h
      refine fhW.blk fhPF fhLL hΓ [(.iload_n 3, 0)] (pc' := 47) (lv' := [(0, .ref v0), (1, .int v1), (2, .int v2), (3, .int v3), (4, .int v4)]) (st' := [.int v3]) (σ' := σ) (by decide +kernel) rfl rfl rfl ?_
      have e9 := Option.some.inj h
      subst e9
      exact fhW.iret hΓ (by decide +kernel) hk
    · rw [if_neg hc] at h
      refine fhW.blk fhPF fhLL hΓ [(.iload_n 3, 0), (.aload_n 0, 0), (.iload 4, 0)] (pc' := 23) (lv' := [(0, .ref v0), (1, .int v1), (2, .int v2), (3, .int v3), (4, .int v4)]) (st' := [.int v4, .ref v0, .int v3]) (σ' := σ) (by decide +kernel) rfl rfl rfl ?_
      refine fhW.callv hΓ mvX2_get ml_8_36 (t := v0) (ci := 2) (av := [.int v4]) (rest := [.int v3]) (r := (some (.int (fcG σ v0 v4)))) (σ' := σ) (T_X2_get (E := fhEn Γ) (d := fhD Γ - 1) hE (by omega) v0 v4 hv0 σ) (by omega) (by decide +kernel) rfl (fhiC_g hv0) rfl (Nat.le_of_ble_eq_true rfl) rfl ?_
      show fhW fhYF Γ 26 [(0, .ref v0), (1, .int v1), (2, .int v2), (3, .int v3), (4, .int v4)] [.int (fcG σ v0 v4), .int v3] σ
      refine fhW.blk fhPF fhLL hΓ [(.bipush 97, 97), (.isub, 0), (.iconst 1, 1), (.iadd, 0), (.iconst 5, 5), (.iload 4, 0), (.iload_n 1, 0), (.isub, 0), (.imul, 0), (.ishl, 0), (.ior, 0), (.istore_n 3, 0)] (pc' := 40) (lv' := [(3, .int (v3 ||| ((((fcG σ v0 v4) - (97 : Int32)) + (1 : Int32)) <<< (((5 : Int32) * (v4 - v1)) &&& 31)))), (0, .ref v0), (1, .int v1), (2, .int v2), (4, .int v4)]) (st' := []) (σ' := σ) (by decide +kernel) rfl rfl rfl ?_
      obtain ⟨w3_1, e1, h⟩ := fhlet_elim h
      rw [← e1]
      refine fhW.blk fhPF fhLL hΓ [(.iinc 4 1, 1)] (pc' := 43) (lv' := [(4, .int (v4 + (1 : Int32))), (3, .int w3_1), (0, .ref v0), (1, .int v1), (2, .int v2)]) (st' := []) (σ' := σ) (by decide +kernel) rfl rfl rfl ?_
      refine fhW.goto hΓ (off := (-38)) (tgt := 5) (by decide +kernel) ?_
      refine fhW.sub (lv' := [(0, .ref v0), (1, .int v1), (2, .int v2), (3, .int w3_1), (4, .int (v4 + (1 : Int32)))]) [2, 3, 4, 1, 0] rfl ?_
      have e9 := Option.some.inj h
      subst e9
      exact hk
set_option maxRecDepth 100000 in
set_option maxHeartbeats 4000000 in
theorem L_X8_packLetters_E {Γ : fhX} (hE : fhEok fhYF (fhEn Γ)) (hΓ : fhOk fhYF 8 cX8_packLetters 5 (some .int) Γ) (hd : 1 ≤ fhD Γ) (v0 : Nat) (v1 : Int32) (v2 : Int32) (hv0 : fhiC v0 = true) (σ : fhM) (o : Int32) (h : f_X8_packLetters v0 v1 v2 σ = some o) (hk : (fun o => fhRet Γ (some (.int o)) σ) o) : fhW fhYF Γ 0 [(0, .ref v0), (1, .int v1), (2, .int v2)] [] σ := by
  unfold f_X8_packLetters at h
  refine fhW.blk fhPF fhLL hΓ [(.iconst 0, 0), (.istore_n 3, 0), (.iload_n 1, 0), (.istore 4, 0)] (pc' := 5) (lv' := [(4, .int v1), (3, .int (0 : Int32)), (0, .ref v0), (1, .int v1), (2, .int v2)]) (st' := []) (σ' := σ) (by decide +kernel) rfl rfl rfl ?_
  refine fhW.sub (lv' := [(0, .ref v0), (1, .int v1), (2, .int v2), (3, .int (0 : Int32)), (4, .int v1)]) [2, 3, 4, 1, 0] rfl ?_
  exact fhlp_ok (W := (fun x => fhW fhYF Γ 5 [(0, .ref v0), (1, .int v1), (2, .int v2), (3, .int x.1), (4, .int x.2)] [] σ)) (B := (fun o => fhRet Γ (some (.int o)) σ)) (fun x o h hk => L_X8_packLetters_5 hE hΓ hd v0 v1 v2 x.1 x.2 hv0 σ o h hk) ((0 : Int32), v1) _ h hk
set_option maxRecDepth 100000 in
theorem T_X8_packLetters {E : fhE} {d : Nat} (hE : fhEok fhYF E) (hd : 1 ≤ d) (v0 : Nat) (v1 : Int32) (v2 : Int32) (hv0 : fhiC v0 = true) (σ : fhM) {o : Int32} (h : f_X8_packLetters v0 v1 v2 σ = some o) : fhC fhYF E d miX8_packLetters [.ref v0, .int v1, .int v2] σ (some (.int o)) σ := by
  refine fhC.of (y := yX8_packLetters) (cc := cX8_packLetters) (nL := 5) (ret := (some .int)) 8 rfl (by decide +kernel) (Nat.le_of_ble_eq_true rfl) ?_
  intro Γ hΓ hR hD hEn
  subst hD; subst hEn
  exact L_X8_packLetters_E hE hΓ hd v0 v1 v2 hv0 σ _ h hR
set_option maxRecDepth 100000 in
set_option maxHeartbeats 4000000 in
theorem L_X8_numberOf_5 {Γ : fhX} (hE : fhEok fhYF (fhEn Γ)) (hΓ : fhOk fhYF 8 cX8_numberOf 5 (some .int) Γ) (hd : 1 ≤ fhD Γ) (v0 : Nat) (v1 : Int32) (v2 : Int32) (v3 : Int32) (v4 : Int32) (hv0 : fhiC v0 = true) (σ : fhM) (o : (Int32 × Int32) ⊕ (Int32)) (h : f_X8_numberOf_5 v0 v1 v2 v3 v4 σ = some o) (hk : (fhK (fun x => fhW fhYF Γ 5 [(0, .ref v0), (1, .int v1), (2, .int v2), (3, .int x.1), (4, .int x.2)] [] σ) (fun o => fhRet Γ (some (.int o)) σ)) o) : fhW fhYF Γ 5 [(0, .ref v0), (1, .int v1), (2, .int v2), (3, .int v3), (4, .int v4)] [] σ := by
  unfold f_X8_numberOf_5 at h
  refine fhW.blk fhPF fhLL hΓ [(.iload 4, 0), (.iload_n 2, 0)] (pc' := 8) (lv' := [(0, .ref v0), (1, .int v1), (2, .int v2), (3, .int v3), (4, .int v4)]) (st' := [.int v2, .int v4]) (σ' := σ) (by decide +kernel) rfl rfl rfl ?_
  refine fhW.i_ge hΓ (tgt := 40) (show fhbk _ _ (.if_icmp .ge (32)) _ = true by decide +kernel) (fun hc => ?_) (fun hc => ?_)
  · rw [if_pos hc] at h
    refine fhW.blk fhPF fhLL hΓ [(.iload_n 3, 0)] (pc' := 41) (lv' := [(0, .ref v0), (1, .int v1), (2, .int v2), (3, .int v3), (4, .int v4)]) (st' := [.int v3]) (σ' := σ) (by decide +kernel) rfl rfl rfl ?_
    have e9 := Option.some.inj h
    subst e9
    exact fhW.iret hΓ (by decide +kernel) hk
  · rw [if_neg hc] at h
    refine fhW.blk fhPF fhLL hΓ [(.iload 4, 0), (.iload_n 1, 0), (.isub, 0), (.iconst 4, 4)] (pc' := 16) (lv' := [(0, .ref v0), (1, .int v1), (2, .int v2), (3, .int v3), (4, .int v4)]) (st' := [.int (4 : Int32), .int (v4 - v1)]) (σ' := σ) (by decide +kernel) rfl rfl rfl ?_
    refine fhW.i_ge hΓ (tgt := 40) (show fhbk _ _ (.if_icmp .ge (24)) _ = true by decide +kernel) (fun hc => ?_) (fun hc => ?_)
    · rw [if_pos hc] at h
      refine fhW.blk fhPF fhLL hΓ [(.iload_n 3, 0)] (pc' := 41) (lv' := [(0, .ref v0), (1, .int v1), (2, .int v2), (3, .int v3), (4, .int v4)]) (st' := [.int v3]) (σ' := σ) (by decide +kernel) rfl rfl rfl ?_
      have e9 := Option.some.inj h
      subst e9
      exact fhW.iret hΓ (by decide +kernel) hk
    · rw [if_neg hc] at h
      refine fhW.blk fhPF fhLL hΓ [(.iload_n 3, 0), (.bipush 10, 10), (.imul, 0), (.aload_n 0, 0), (.iload 4, 0)] (pc' := 26) (lv' := [(0, .ref v0), (1, .int v1), (2, .int v2), (3, .int v3), (4, .int v4)]) (st' := [.int v4, .ref v0, .int (v3 * (10 : Int32))]) (σ' := σ) (by decide +kernel) rfl rfl rfl ?_
      refine fhW.callv hΓ mvX2_get ml_8_36 (t := v0) (ci := 2) (av := [.int v4]) (rest := [.int (v3 * (10 : Int32))]) (r := (some (.int (fcG σ v0 v4)))) (σ' := σ) (T_X2_get (E := fhEn Γ) (d := fhD Γ - 1) hE (by omega) v0 v4 hv0 σ) (by omega) (by decide +kernel) rfl (fhiC_g hv0) rfl (Nat.le_of_ble_eq_true rfl) rfl ?_
      show fhW fhYF Γ 29 [(0, .ref v0), (1, .int v1), (2, .int v2), (3, .int v3), (4, .int v4)] [.int (fcG σ v0 v4), .int (v3 * (10 : Int32))] σ
      refine fhW.blk fhPF fhLL hΓ [(.iadd, 0), (.bipush 48, 48), (.isub, 0), (.istore_n 3, 0)] (pc' := 34) (lv' := [(3, .int (((v3 * (10 : Int32)) + (fcG σ v0 v4)) - (48 : Int32))), (0, .ref v0), (1, .int v1), (2, .int v2), (4, .int v4)]) (st' := []) (σ' := σ) (by decide +kernel) rfl rfl rfl ?_
      obtain ⟨w3_1, e1, h⟩ := fhlet_elim h
      rw [← e1]
      refine fhW.blk fhPF fhLL hΓ [(.iinc 4 1, 1)] (pc' := 37) (lv' := [(4, .int (v4 + (1 : Int32))), (3, .int w3_1), (0, .ref v0), (1, .int v1), (2, .int v2)]) (st' := []) (σ' := σ) (by decide +kernel) rfl rfl rfl ?_
      refine fhW.goto hΓ (off := (-32)) (tgt := 5) (by decide +kernel) ?_
      refine fhW.sub (lv' := [(0, .ref v0), (1, .int v1), (2, .int v2), (3, .int w3_1), (4, .int (v4 + (1 : Int32)))]) [2, 3, 4, 1, 0] rfl ?_
      have e9 := Option.some.inj h
      subst e9
      exact hk
set_option maxRecDepth 100000 in
set_option maxHeartbeats 4000000 in
theorem L_X8_numberOf_E {Γ : fhX} (hE : fhEok fhYF (fhEn Γ)) (hΓ : fhOk fhYF 8 cX8_numberOf 5 (some .int) Γ) (hd : 1 ≤ fhD Γ) (v0 : Nat) (v1 : Int32) (v2 : Int32) (hv0 : fhiC v0 = true) (σ : fhM) (o : Int32) (h : f_X8_numberOf v0 v1 v2 σ = some o) (hk : (fun o => fhRet Γ (some (.int o)) σ) o) : fhW fhYF Γ 0 [(0, .ref v0), (1, .int v1), (2, .int v2)] [] σ := by
  unfold f_X8_numberOf at h
  refine fhW.blk fhPF fhLL hΓ [(.iconst 0, 0), (.istore_n 3, 0), (.iload_n 1, 0), (.istore 4, 0)] (pc' := 5) (lv' := [(4, .int v1), (3, .int (0 : Int32)), (0, .ref v0), (1, .int v1), (2, .int v2)]) (st' := []) (σ' := σ) (by decide +kernel) rfl rfl rfl ?_
  refine fhW.sub (lv' := [(0, .ref v0), (1, .int v1), (2, .int v2), (3, .int (0 : Int32)), (4, .int v1)]) [2, 3, 4, 1, 0] rfl ?_
  exact fhlp_ok (W := (fun x => fhW fhYF Γ 5 [(0, .ref v0), (1, .int v1), (2, .int v2), (3, .int x.1), (4, .int x.2)] [] σ)) (B := (fun o => fhRet Γ (some (.int o)) σ)) (fun x o h hk => L_X8_numberOf_5 hE hΓ hd v0 v1 v2 x.1 x.2 hv0 σ o h hk) ((0 : Int32), v1) _ h hk
set_option maxRecDepth 100000 in
theorem T_X8_numberOf {E : fhE} {d : Nat} (hE : fhEok fhYF E) (hd : 1 ≤ d) (v0 : Nat) (v1 : Int32) (v2 : Int32) (hv0 : fhiC v0 = true) (σ : fhM) {o : Int32} (h : f_X8_numberOf v0 v1 v2 σ = some o) : fhC fhYF E d miX8_numberOf [.ref v0, .int v1, .int v2] σ (some (.int o)) σ := by
  refine fhC.of (y := yX8_numberOf) (cc := cX8_numberOf) (nL := 5) (ret := (some .int)) 8 rfl (by decide +kernel) (Nat.le_of_ble_eq_true rfl) ?_
  intro Γ hΓ hR hD hEn
  subst hD; subst hEn
  exact L_X8_numberOf_E hE hΓ hd v0 v1 v2 hv0 σ _ h hR
set_option maxRecDepth 100000 in
set_option maxHeartbeats 4000000 in
theorem L_X8_cutPiece_246 {Γ : fhX} (hE : fhEok fhYF (fhEn Γ)) (hΓ : fhOk fhYF 8 cX8_cutPiece 9 (some .int) Γ) (hd : 7 ≤ fhD Γ) (v4 : Int32) (s0 : Int32) (s1 : Int32)  (σ : fhM) (o : Int32 × fhM) (h : f_X8_cutPiece_246 v4 s0 s1 σ = some o) (hk : (fun o => fhRet Γ (some (.int o.1)) o.2) o) : fhW fhYF Γ 246 [(0, .ref 3), (4, .int v4)] [.int s0, .int s1, .ref 4] σ := by
  unfold f_X8_cutPiece_246 at h
  refine fhW.callv hΓ mvX2_put ml_8_54 (t := 4) (ci := 2) (av := [.int s1, .int s0]) (rest := []) (r := none) (σ' := (fcP σ 4 s1 s0)) (T_X2_put (E := fhEn Γ) (d := fhD Γ - 1) hE (by omega) 4 s1 s0 rfl σ) (by omega) (by decide +kernel) rfl rfl rfl (Nat.le_of_ble_eq_true rfl) rfl ?_
  show fhW fhYF Γ 249 [(0, .ref 3), (4, .int v4)] [] (fcP σ 4 s1 s0)
  refine fhW.blk fhPF fhLL hΓ [(.aload_n 0, 0), (.dup, 0), (.getfield 30, 0), (.iconst 1, 1), (.iadd, 0), (.putfield 30, 0), (.iload 4, 0)] (pc' := 261) (lv' := [(0, .ref 3), (4, .int v4)]) (st' := [.int v4]) (σ' := (fhI (fcP σ 4 s1 s0) 3 1 ((σ.1 3 1) + (1 : Int32)))) (by decide +kernel) rfl rfl rfl ?_
  have e9 := Option.some.inj h
  subst e9
  exact fhW.iret hΓ (by decide +kernel) hk
set_option maxRecDepth 100000 in
set_option maxHeartbeats 4000000 in
theorem L_X8_cutPiece_220 {Γ : fhX} (hE : fhEok fhYF (fhEn Γ)) (hΓ : fhOk fhYF 8 cX8_cutPiece 9 (some .int) Γ) (hd : 7 ≤ fhD Γ) (v3 : Int32) (v4 : Int32) (v5 : Int32) (v8 : Int32) (s0 : Int32) (s1 : Int32)  (σ : fhM) (o : Int32 × fhM) (h : f_X8_cutPiece_220 v3 v4 v5 v8 s0 s1 σ = some o) (hk : (fun o => fhRet Γ (some (.int o.1)) o.2) o) : fhW fhYF Γ 220 [(0, .ref 3), (3, .int v3), (4, .int v4), (5, .int v5), (8, .int v8)] [.int s0, .int s1, .ref 4] σ := by
  unfold f_X8_cutPiece_220 at h
  refine fhW.callv hΓ mvX2_put ml_8_54 (t := 4) (ci := 2) (av := [.int s1, .int s0]) (rest := []) (r := none) (σ' := (fcP σ 4 s1 s0)) (T_X2_put (E := fhEn Γ) (d := fhD Γ - 1) hE (by omega) 4 s1 s0 rfl σ) (by omega) (by decide +kernel) rfl rfl rfl (Nat.le_of_ble_eq_true rfl) rfl ?_
  show fhW fhYF Γ 223 [(0, .ref 3), (3, .int v3), (4, .int v4), (5, .int v5), (8, .int v8)] [] (fcP σ 4 s1 s0)
  refine fhW.blk fhPF fhLL hΓ [(.aload_n 0, 0), (.getfield 16, 0), (.iload 5, 0), (.iconst 4, 4), (.iadd, 0), (.iload_n 3, 0), (.iconst 1, 1)] (pc' := 233) (lv' := [(0, .ref 3), (3, .int v3), (4, .int v4), (5, .int v5), (8, .int v8)]) (st' := [.int (1 : Int32), .int v3, .int (v5 + (4 : Int32)), .ref 4]) (σ' := (fcP σ 4 s1 s0)) (by decide +kernel) rfl rfl rfl ?_
  refine fhW.i_ne hΓ (tgt := 244) (show fhbk _ _ (.if_icmp .ne (11)) _ = true by decide +kernel) (fun hc => ?_) (fun hc => ?_)
  · simp only [if_neg hc] at h
    refine fhW.blk fhPF fhLL hΓ [(.bipush 99, 99)] (pc' := 246) (lv' := [(0, .ref 3), (3, .int v3), (4, .int v4), (5, .int v5), (8, .int v8)]) (st' := [.int (99 : Int32), .int (v5 + (4 : Int32)), .ref 4]) (σ' := (fcP σ 4 s1 s0)) (by decide +kernel) rfl rfl rfl ?_
    refine fhW.sub (lv' := [(0, .ref 3), (4, .int v4)]) [0, 2] rfl ?_
    exact L_X8_cutPiece_246 hE hΓ hd v4 (99 : Int32) (v5 + (4 : Int32)) (fcP σ 4 s1 s0) _ h hk
  · simp only [if_pos hc] at h
    refine fhW.blk fhPF fhLL hΓ [(.iload 8, 0)] (pc' := 238) (lv' := [(0, .ref 3), (3, .int v3), (4, .int v4), (5, .int v5), (8, .int v8)]) (st' := [.int v8, .int (v5 + (4 : Int32)), .ref 4]) (σ' := (fcP σ 4 s1 s0)) (by decide +kernel) rfl rfl rfl ?_
    refine fhW.calls hΓ msX8_wordNumber ml_8_61 (av := [.int v8]) (rest := [.int (v5 + (4 : Int32)), .ref 4]) (r := (some (.int (f_X8_wordNumber v8 (fcP σ 4 s1 s0))))) (σ' := (fcP σ 4 s1 s0)) (T_X8_wordNumber (E := fhEn Γ) (d := fhD Γ - 1) hE (by omega) v8 (fcP σ 4 s1 s0)) (by omega) (by decide +kernel) rfl (Nat.le_of_ble_eq_true rfl) rfl ?_
    show fhW fhYF Γ 241 [(0, .ref 3), (3, .int v3), (4, .int v4), (5, .int v5), (8, .int v8)] [.int (f_X8_wordNumber v8 (fcP σ 4 s1 s0)), .int (v5 + (4 : Int32)), .ref 4] (fcP σ 4 s1 s0)
    refine fhW.goto hΓ (off := 5) (tgt := 246) (by decide +kernel) ?_
    refine fhW.sub (lv' := [(0, .ref 3), (4, .int v4)]) [0, 2] rfl ?_
    exact L_X8_cutPiece_246 hE hΓ hd v4 (f_X8_wordNumber v8 (fcP σ 4 s1 s0)) (v5 + (4 : Int32)) (fcP σ 4 s1 s0) _ h hk
set_option maxRecDepth 100000 in
set_option maxHeartbeats 4000000 in
theorem L_X8_cutPiece_179 {Γ : fhX} (hE : fhEok fhYF (fhEn Γ)) (hΓ : fhOk fhYF 8 cX8_cutPiece 9 (some .int) Γ) (hd : 7 ≤ fhD Γ) (v1 : Nat) (v2 : Int32) (v3 : Int32) (v4 : Int32) (v5 : Int32) (v8 : Int32) (s0 : Int32) (s1 : Int32) (hv1 : fhiC v1 = true) (σ : fhM) (o : Int32 × fhM) (h : f_X8_cutPiece_179 v1 v2 v3 v4 v5 v8 s0 s1 σ = some o) (hk : (fun o => fhRet Γ (some (.int o.1)) o.2) o) : fhW fhYF Γ 179 [(0, .ref 3), (1, .ref v1), (2, .int v2), (3, .int v3), (4, .int v4), (5, .int v5), (8, .int v8)] [.int s0, .int s1, .ref 4] σ := by
  unfold f_X8_cutPiece_179 at h
  refine fhW.callv hΓ mvX2_put ml_8_54 (t := 4) (ci := 2) (av := [.int s1, .int s0]) (rest := []) (r := none) (σ' := (fcP σ 4 s1 s0)) (T_X2_put (E := fhEn Γ) (d := fhD Γ - 1) hE (by omega) 4 s1 s0 rfl σ) (by omega) (by decide +kernel) rfl rfl rfl (Nat.le_of_ble_eq_true rfl) rfl ?_
  show fhW fhYF Γ 182 [(0, .ref 3), (1, .ref v1), (2, .int v2), (3, .int v3), (4, .int v4), (5, .int v5), (8, .int v8)] [] (fcP σ 4 s1 s0)
  refine fhW.blk fhPF fhLL hΓ [(.aload_n 0, 0), (.getfield 16, 0), (.iload 5, 0), (.iconst 3, 3), (.iadd, 0), (.iload_n 3, 0), (.iconst 1, 1)] (pc' := 192) (lv' := [(0, .ref 3), (1, .ref v1), (2, .int v2), (3, .int v3), (4, .int v4), (5, .int v5), (8, .int v8)]) (st' := [.int (1 : Int32), .int v3, .int (v5 + (3 : Int32)), .ref 4]) (σ' := (fcP σ 4 s1 s0)) (by decide +kernel) rfl rfl rfl ?_
  refine fhW.i_ne hΓ (tgt := 200) (show fhbk _ _ (.if_icmp .ne (8)) _ = true by decide +kernel) (fun hc => ?_) (fun hc => ?_)
  · rw [if_neg hc] at h
    refine fhW.blk fhPF fhLL hΓ [(.iload_n 3, 0), (.iconst 2, 2)] (pc' := 202) (lv' := [(0, .ref 3), (1, .ref v1), (2, .int v2), (3, .int v3), (4, .int v4), (5, .int v5), (8, .int v8)]) (st' := [.int (2 : Int32), .int v3, .int (v5 + (3 : Int32)), .ref 4]) (σ' := (fcP σ 4 s1 s0)) (by decide +kernel) rfl rfl rfl ?_
    refine fhW.i_ne hΓ (tgt := 215) (show fhbk _ _ (.if_icmp .ne (13)) _ = true by decide +kernel) (fun hc => ?_) (fun hc => ?_)
    · rw [if_neg hc] at h
      refine fhW.blk fhPF fhLL hΓ [(.aload_n 1, 0), (.iload_n 2, 0)] (pc' := 217) (lv' := [(0, .ref 3), (1, .ref v1), (2, .int v2), (3, .int v3), (4, .int v4), (5, .int v5), (8, .int v8)]) (st' := [.int v2, .ref v1, .int (v5 + (3 : Int32)), .ref 4]) (σ' := (fcP σ 4 s1 s0)) (by decide +kernel) rfl rfl rfl ?_
      refine fhW.callv hΓ mvX2_get ml_8_36 (t := v1) (ci := 2) (av := [.int v2]) (rest := [.int (v5 + (3 : Int32)), .ref 4]) (r := (some (.int (fcG (fcP σ 4 s1 s0) v1 v2)))) (σ' := (fcP σ 4 s1 s0)) (T_X2_get (E := fhEn Γ) (d := fhD Γ - 1) hE (by omega) v1 v2 hv1 (fcP σ 4 s1 s0)) (by omega) (by decide +kernel) rfl (fhiC_g hv1) rfl (Nat.le_of_ble_eq_true rfl) rfl ?_
      show fhW fhYF Γ 220 [(0, .ref 3), (1, .ref v1), (2, .int v2), (3, .int v3), (4, .int v4), (5, .int v5), (8, .int v8)] [.int (fcG (fcP σ 4 s1 s0) v1 v2), .int (v5 + (3 : Int32)), .ref 4] (fcP σ 4 s1 s0)
      refine fhW.sub (lv' := [(0, .ref 3), (3, .int v3), (4, .int v4), (5, .int v5), (8, .int v8)]) [0, 3, 4, 5, 6] rfl ?_
      exact L_X8_cutPiece_220 hE hΓ hd v3 v4 v5 v8 (fcG (fcP σ 4 s1 s0) v1 v2) (v5 + (3 : Int32)) (fcP σ 4 s1 s0) _ h hk
    · rw [if_pos hc] at h
      refine fhW.blk fhPF fhLL hΓ [(.aload_n 1, 0), (.iload_n 2, 0), (.iload 4, 0)] (pc' := 209) (lv' := [(0, .ref 3), (1, .ref v1), (2, .int v2), (3, .int v3), (4, .int v4), (5, .int v5), (8, .int v8)]) (st' := [.int v4, .int v2, .ref v1, .int (v5 + (3 : Int32)), .ref 4]) (σ' := (fcP σ 4 s1 s0)) (by decide +kernel) rfl rfl rfl ?_
      obtain ⟨q2, hb1, h⟩ := Option.bind_eq_some_iff.mp h
      refine fhW.calls hΓ msX8_numberOf ml_8_58 (av := [.ref v1, .int v2, .int v4]) (rest := [.int (v5 + (3 : Int32)), .ref 4]) (r := (some (.int q2))) (σ' := (fcP σ 4 s1 s0)) (T_X8_numberOf (E := fhEn Γ) (d := fhD Γ - 1) hE (by omega) v1 v2 v4 hv1 (fcP σ 4 s1 s0) hb1) (by omega) (by decide +kernel) rfl (Nat.le_of_ble_eq_true rfl) rfl ?_
      show fhW fhYF Γ 212 [(0, .ref 3), (1, .ref v1), (2, .int v2), (3, .int v3), (4, .int v4), (5, .int v5), (8, .int v8)] [.int q2, .int (v5 + (3 : Int32)), .ref 4] (fcP σ 4 s1 s0)
      refine fhW.goto hΓ (off := 8) (tgt := 220) (by decide +kernel) ?_
      refine fhW.sub (lv' := [(0, .ref 3), (3, .int v3), (4, .int v4), (5, .int v5), (8, .int v8)]) [0, 3, 4, 5, 6] rfl ?_
      exact L_X8_cutPiece_220 hE hΓ hd v3 v4 v5 v8 q2 (v5 + (3 : Int32)) (fcP σ 4 s1 s0) _ h hk
  · rw [if_pos hc] at h
    refine fhW.blk fhPF fhLL hΓ [(.iload 8, 0)] (pc' := 197) (lv' := [(0, .ref 3), (1, .ref v1), (2, .int v2), (3, .int v3), (4, .int v4), (5, .int v5), (8, .int v8)]) (st' := [.int v8, .int (v5 + (3 : Int32)), .ref 4]) (σ' := (fcP σ 4 s1 s0)) (by decide +kernel) rfl rfl rfl ?_
    refine fhW.goto hΓ (off := 23) (tgt := 220) (by decide +kernel) ?_
    refine fhW.sub (lv' := [(0, .ref 3), (3, .int v3), (4, .int v4), (5, .int v5), (8, .int v8)]) [0, 3, 4, 5, 6] rfl ?_
    exact L_X8_cutPiece_220 hE hΓ hd v3 v4 v5 v8 v8 (v5 + (3 : Int32)) (fcP σ 4 s1 s0) _ h hk
set_option maxRecDepth 100000 in
set_option maxHeartbeats 4000000 in
theorem L_X8_cutPiece_136 {Γ : fhX} (hE : fhEok fhYF (fhEn Γ)) (hΓ : fhOk fhYF 8 cX8_cutPiece 9 (some .int) Γ) (hd : 7 ≤ fhD Γ) (v1 : Nat) (v2 : Int32) (v3 : Int32) (v4 : Int32) (v5 : Int32) (v7 : Int32) (s0 : Int32) (hv1 : fhiC v1 = true) (σ : fhM) (o : Int32 × fhM) (h : f_X8_cutPiece_136 v1 v2 v3 v4 v5 v7 s0 σ = some o) (hk : (fun o => fhRet Γ (some (.int o.1)) o.2) o) : fhW fhYF Γ 136 [(0, .ref 3), (1, .ref v1), (2, .int v2), (3, .int v3), (4, .int v4), (5, .int v5), (7, .int v7)] [.int s0] σ := by
  unfold f_X8_cutPiece_136 at h
  refine fhW.blk fhPF fhLL hΓ [(.istore 8, 0), (.aload_n 0, 0), (.getfield 16, 0), (.iload 5, 0), (.iload_n 2, 0)] (pc' := 145) (lv' := [(8, .int s0), (0, .ref 3), (1, .ref v1), (2, .int v2), (3, .int v3), (4, .int v4), (5, .int v5), (7, .int v7)]) (st' := [.int v2, .int v5, .ref 4]) (σ' := σ) (by decide +kernel) rfl rfl rfl ?_
  refine fhW.callv hΓ mvX2_put ml_8_54 (t := 4) (ci := 2) (av := [.int v5, .int v2]) (rest := []) (r := none) (σ' := (fcP σ 4 v5 v2)) (T_X2_put (E := fhEn Γ) (d := fhD Γ - 1) hE (by omega) 4 v5 v2 rfl σ) (by omega) (by decide +kernel) rfl rfl rfl (Nat.le_of_ble_eq_true rfl) rfl ?_
  show fhW fhYF Γ 148 [(8, .int s0), (0, .ref 3), (1, .ref v1), (2, .int v2), (3, .int v3), (4, .int v4), (5, .int v5), (7, .int v7)] [] (fcP σ 4 v5 v2)
  refine fhW.blk fhPF fhLL hΓ [(.aload_n 0, 0), (.getfield 16, 0), (.iload 5, 0), (.iconst 1, 1), (.iadd, 0), (.iload 4, 0)] (pc' := 158) (lv' := [(8, .int s0), (0, .ref 3), (1, .ref v1), (2, .int v2), (3, .int v3), (4, .int v4), (5, .int v5), (7, .int v7)]) (st' := [.int v4, .int (v5 + (1 : Int32)), .ref 4]) (σ' := (fcP σ 4 v5 v2)) (by decide +kernel) rfl rfl rfl ?_
  refine fhW.callv hΓ mvX2_put ml_8_54 (t := 4) (ci := 2) (av := [.int (v5 + (1 : Int32)), .int v4]) (rest := []) (r := none) (σ' := (fcP (fcP σ 4 v5 v2) 4 (v5 + (1 : Int32)) v4)) (T_X2_put (E := fhEn Γ) (d := fhD Γ - 1) hE (by omega) 4 (v5 + (1 : Int32)) v4 rfl (fcP σ 4 v5 v2)) (by omega) (by decide +kernel) rfl rfl rfl (Nat.le_of_ble_eq_true rfl) rfl ?_
  show fhW fhYF Γ 161 [(8, .int s0), (0, .ref 3), (1, .ref v1), (2, .int v2), (3, .int v3), (4, .int v4), (5, .int v5), (7, .int v7)] [] (fcP (fcP σ 4 v5 v2) 4 (v5 + (1 : Int32)) v4)
  refine fhW.blk fhPF fhLL hΓ [(.aload_n 0, 0), (.getfield 16, 0), (.iload 5, 0), (.iconst 2, 2), (.iadd, 0), (.iload 7, 0)] (pc' := 171) (lv' := [(8, .int s0), (0, .ref 3), (1, .ref v1), (2, .int v2), (3, .int v3), (4, .int v4), (5, .int v5), (7, .int v7)]) (st' := [.int v7, .int (v5 + (2 : Int32)), .ref 4]) (σ' := (fcP (fcP σ 4 v5 v2) 4 (v5 + (1 : Int32)) v4)) (by decide +kernel) rfl rfl rfl ?_
  refine fhW.z_eq hΓ (tgt := 178) (show fhbk _ _ (.ifCond .eq (7)) _ = true by decide +kernel) (fun hc => ?_) (fun hc => ?_)
  · simp only [if_pos hc] at h
    refine fhW.blk fhPF fhLL hΓ [(.iload_n 3, 0)] (pc' := 179) (lv' := [(8, .int s0), (0, .ref 3), (1, .ref v1), (2, .int v2), (3, .int v3), (4, .int v4), (5, .int v5), (7, .int v7)]) (st' := [.int v3, .int (v5 + (2 : Int32)), .ref 4]) (σ' := (fcP (fcP σ 4 v5 v2) 4 (v5 + (1 : Int32)) v4)) (by decide +kernel) rfl rfl rfl ?_
    refine fhW.sub (lv' := [(0, .ref 3), (1, .ref v1), (2, .int v2), (3, .int v3), (4, .int v4), (5, .int v5), (8, .int s0)]) [1, 2, 3, 4, 5, 6, 0] rfl ?_
    exact L_X8_cutPiece_179 hE hΓ hd v1 v2 v3 v4 v5 s0 v3 (v5 + (2 : Int32)) hv1 (fcP (fcP σ 4 v5 v2) 4 (v5 + (1 : Int32)) v4) _ h hk
  · simp only [if_neg hc] at h
    refine fhW.blk fhPF fhLL hΓ [(.iconst 4, 4)] (pc' := 175) (lv' := [(8, .int s0), (0, .ref 3), (1, .ref v1), (2, .int v2), (3, .int v3), (4, .int v4), (5, .int v5), (7, .int v7)]) (st' := [.int (4 : Int32), .int (v5 + (2 : Int32)), .ref 4]) (σ' := (fcP (fcP σ 4 v5 v2) 4 (v5 + (1 : Int32)) v4)) (by decide +kernel) rfl rfl rfl ?_
    refine fhW.goto hΓ (off := 4) (tgt := 179) (by decide +kernel) ?_
    refine fhW.sub (lv' := [(0, .ref 3), (1, .ref v1), (2, .int v2), (3, .int v3), (4, .int v4), (5, .int v5), (8, .int s0)]) [1, 2, 3, 4, 5, 6, 0] rfl ?_
    exact L_X8_cutPiece_179 hE hΓ hd v1 v2 v3 v4 v5 s0 (4 : Int32) (v5 + (2 : Int32)) hv1 (fcP (fcP σ 4 v5 v2) 4 (v5 + (1 : Int32)) v4) _ h hk
set_option maxRecDepth 100000 in
set_option maxHeartbeats 4000000 in
theorem L_X8_cutPiece_118 {Γ : fhX} (hE : fhEok fhYF (fhEn Γ)) (hΓ : fhOk fhYF 8 cX8_cutPiece 9 (some .int) Γ) (hd : 7 ≤ fhD Γ) (v1 : Nat) (v2 : Int32) (v3 : Int32) (v4 : Int32) (v5 : Int32) (s0 : Int32) (hv1 : fhiC v1 = true) (σ : fhM) (o : Int32 × fhM) (h : f_X8_cutPiece_118 v1 v2 v3 v4 v5 s0 σ = some o) (hk : (fun o => fhRet Γ (some (.int o.1)) o.2) o) : fhW fhYF Γ 118 [(0, .ref 3), (1, .ref v1), (2, .int v2), (3, .int v3), (4, .int v4), (5, .int v5)] [.int s0] σ := by
  unfold f_X8_cutPiece_118 at h
  refine fhW.blk fhPF fhLL hΓ [(.istore 7, 0), (.iload_n 3, 0), (.iconst 1, 1)] (pc' := 122) (lv' := [(7, .int s0), (0, .ref 3), (1, .ref v1), (2, .int v2), (3, .int v3), (4, .int v4), (5, .int v5)]) (st' := [.int (1 : Int32), .int v3]) (σ' := σ) (by decide +kernel) rfl rfl rfl ?_
  refine fhW.i_ne hΓ (tgt := 135) (show fhbk _ _ (.if_icmp .ne (13)) _ = true by decide +kernel) (fun hc => ?_) (fun hc => ?_)
  · rw [if_neg hc] at h
    refine fhW.blk fhPF fhLL hΓ [(.iconst 0, 0)] (pc' := 136) (lv' := [(7, .int s0), (0, .ref 3), (1, .ref v1), (2, .int v2), (3, .int v3), (4, .int v4), (5, .int v5)]) (st' := [.int (0 : Int32)]) (σ' := σ) (by decide +kernel) rfl rfl rfl ?_
    refine fhW.sub (lv' := [(0, .ref 3), (1, .ref v1), (2, .int v2), (3, .int v3), (4, .int v4), (5, .int v5), (7, .int s0)]) [1, 2, 3, 4, 5, 6, 0] rfl ?_
    exact L_X8_cutPiece_136 hE hΓ hd v1 v2 v3 v4 v5 s0 (0 : Int32) hv1 σ _ h hk
  · rw [if_pos hc] at h
    refine fhW.blk fhPF fhLL hΓ [(.aload_n 1, 0), (.iload_n 2, 0), (.iload 4, 0)] (pc' := 129) (lv' := [(7, .int s0), (0, .ref 3), (1, .ref v1), (2, .int v2), (3, .int v3), (4, .int v4), (5, .int v5)]) (st' := [.int v4, .int v2, .ref v1]) (σ' := σ) (by decide +kernel) rfl rfl rfl ?_
    obtain ⟨q1, hb2, h⟩ := Option.bind_eq_some_iff.mp h
    refine fhW.calls hΓ msX8_packLetters ml_8_50 (av := [.ref v1, .int v2, .int v4]) (rest := []) (r := (some (.int q1))) (σ' := σ) (T_X8_packLetters (E := fhEn Γ) (d := fhD Γ - 1) hE (by omega) v1 v2 v4 hv1 σ hb2) (by omega) (by decide +kernel) rfl (Nat.le_of_ble_eq_true rfl) rfl ?_
    show fhW fhYF Γ 132 [(7, .int s0), (0, .ref 3), (1, .ref v1), (2, .int v2), (3, .int v3), (4, .int v4), (5, .int v5)] [.int q1] σ
    refine fhW.goto hΓ (off := 4) (tgt := 136) (by decide +kernel) ?_
    refine fhW.sub (lv' := [(0, .ref 3), (1, .ref v1), (2, .int v2), (3, .int v3), (4, .int v4), (5, .int v5), (7, .int s0)]) [1, 2, 3, 4, 5, 6, 0] rfl ?_
    exact L_X8_cutPiece_136 hE hΓ hd v1 v2 v3 v4 v5 s0 q1 hv1 σ _ h hk
set_option maxRecDepth 100000 in
set_option maxHeartbeats 4000000 in
theorem L_X8_cutPiece_117 {Γ : fhX} (hE : fhEok fhYF (fhEn Γ)) (hΓ : fhOk fhYF 8 cX8_cutPiece 9 (some .int) Γ) (hd : 7 ≤ fhD Γ) (v1 : Nat) (v2 : Int32) (v3 : Int32) (v4 : Int32) (v5 : Int32) (hv1 : fhiC v1 = true) (σ : fhM) (o : Int32 × fhM) (h : f_X8_cutPiece_117 v1 v2 v3 v4 v5 σ = some o) (hk : (fun o => fhRet Γ (some (.int o.1)) o.2) o) : fhW fhYF Γ 117 [(0, .ref 3), (1, .ref v1), (2, .int v2), (3, .int v3), (4, .int v4), (5, .int v5)] [] σ := by
  unfold f_X8_cutPiece_117 at h
  refine fhW.blk fhPF fhLL hΓ [(.iconst 0, 0)] (pc' := 118) (lv' := [(0, .ref 3), (1, .ref v1), (2, .int v2), (3, .int v3), (4, .int v4), (5, .int v5)]) (st' := [.int (0 : Int32)]) (σ' := σ) (by decide +kernel) rfl rfl rfl ?_
  refine fhW.sub (lv' := [(0, .ref 3), (1, .ref v1), (2, .int v2), (3, .int v3), (4, .int v4), (5, .int v5)]) [0, 1, 2, 3, 4, 5] rfl ?_
  exact L_X8_cutPiece_118 hE hΓ hd v1 v2 v3 v4 v5 (0 : Int32) hv1 σ _ h hk
set_option maxRecDepth 100000 in
set_option maxHeartbeats 4000000 in
theorem L_X8_cutPiece_94 {Γ : fhX} (hE : fhEok fhYF (fhEn Γ)) (hΓ : fhOk fhYF 8 cX8_cutPiece 9 (some .int) Γ) (hd : 7 ≤ fhD Γ) (v1 : Nat) (v2 : Int32) (v3 : Int32) (v4 : Int32) (v5 : Int32) (s0 : Int32) (hv1 : fhiC v1 = true) (σ : fhM) (o : Int32 × fhM) (h : f_X8_cutPiece_94 v1 v2 v3 v4 v5 s0 σ = some o) (hk : (fun o => fhRet Γ (some (.int o.1)) o.2) o) : fhW fhYF Γ 94 [(0, .ref 3), (1, .ref v1), (2, .int v2), (3, .int v3), (4, .int v4), (5, .int v5)] [.int s0] σ := by
  unfold f_X8_cutPiece_94 at h
  refine fhW.blk fhPF fhLL hΓ [(.istore 6, 0), (.aload_n 0, 0), (.getfield 30, 0)] (pc' := 100) (lv' := [(6, .int s0), (0, .ref 3), (1, .ref v1), (2, .int v2), (3, .int v3), (4, .int v4), (5, .int v5)]) (st' := [.int (σ.1 3 1)]) (σ' := σ) (by decide +kernel) rfl rfl rfl ?_
  refine fhW.z_le hΓ (tgt := 117) (show fhbk _ _ (.ifCond .le (17)) _ = true by decide +kernel) (fun hc => ?_) (fun hc => ?_)
  · rw [if_pos hc] at h
    refine fhW.sub (lv' := [(0, .ref 3), (1, .ref v1), (2, .int v2), (3, .int v3), (4, .int v4), (5, .int v5)]) [1, 2, 3, 4, 5, 6] rfl ?_
    exact L_X8_cutPiece_117 hE hΓ hd v1 v2 v3 v4 v5 hv1 σ _ h hk
  · rw [if_neg hc] at h
    refine fhW.blk fhPF fhLL hΓ [(.iload 6, 0)] (pc' := 105) (lv' := [(6, .int s0), (0, .ref 3), (1, .ref v1), (2, .int v2), (3, .int v3), (4, .int v4), (5, .int v5)]) (st' := [.int s0]) (σ' := σ) (by decide +kernel) rfl rfl rfl ?_
    refine fhW.z_eq hΓ (tgt := 117) (show fhbk _ _ (.ifCond .eq (12)) _ = true by decide +kernel) (fun hc => ?_) (fun hc => ?_)
    · rw [if_pos hc] at h
      refine fhW.sub (lv' := [(0, .ref 3), (1, .ref v1), (2, .int v2), (3, .int v3), (4, .int v4), (5, .int v5)]) [1, 2, 3, 4, 5, 6] rfl ?_
      exact L_X8_cutPiece_117 hE hΓ hd v1 v2 v3 v4 v5 hv1 σ _ h hk
    · rw [if_neg hc] at h
      refine fhW.blk fhPF fhLL hΓ [(.iload_n 3, 0), (.iconst 3, 3)] (pc' := 110) (lv' := [(6, .int s0), (0, .ref 3), (1, .ref v1), (2, .int v2), (3, .int v3), (4, .int v4), (5, .int v5)]) (st' := [.int (3 : Int32), .int v3]) (σ' := σ) (by decide +kernel) rfl rfl rfl ?_
      refine fhW.i_eq hΓ (tgt := 117) (show fhbk _ _ (.if_icmp .eq (7)) _ = true by decide +kernel) (fun hc => ?_) (fun hc => ?_)
      · rw [if_pos hc] at h
        refine fhW.sub (lv' := [(0, .ref 3), (1, .ref v1), (2, .int v2), (3, .int v3), (4, .int v4), (5, .int v5)]) [1, 2, 3, 4, 5, 6] rfl ?_
        exact L_X8_cutPiece_117 hE hΓ hd v1 v2 v3 v4 v5 hv1 σ _ h hk
      · rw [if_neg hc] at h
        refine fhW.blk fhPF fhLL hΓ [(.iconst 1, 1)] (pc' := 114) (lv' := [(6, .int s0), (0, .ref 3), (1, .ref v1), (2, .int v2), (3, .int v3), (4, .int v4), (5, .int v5)]) (st' := [.int (1 : Int32)]) (σ' := σ) (by decide +kernel) rfl rfl rfl ?_
        refine fhW.goto hΓ (off := 4) (tgt := 118) (by decide +kernel) ?_
        refine fhW.sub (lv' := [(0, .ref 3), (1, .ref v1), (2, .int v2), (3, .int v3), (4, .int v4), (5, .int v5)]) [1, 2, 3, 4, 5, 6] rfl ?_
        exact L_X8_cutPiece_118 hE hΓ hd v1 v2 v3 v4 v5 (1 : Int32) hv1 σ _ h hk
set_option maxRecDepth 100000 in
set_option maxHeartbeats 4000000 in
theorem L_X8_cutPiece_93 {Γ : fhX} (hE : fhEok fhYF (fhEn Γ)) (hΓ : fhOk fhYF 8 cX8_cutPiece 9 (some .int) Γ) (hd : 7 ≤ fhD Γ) (v1 : Nat) (v2 : Int32) (v3 : Int32) (v4 : Int32) (v5 : Int32) (hv1 : fhiC v1 = true) (σ : fhM) (o : Int32 × fhM) (h : f_X8_cutPiece_93 v1 v2 v3 v4 v5 σ = some o) (hk : (fun o => fhRet Γ (some (.int o.1)) o.2) o) : fhW fhYF Γ 93 [(0, .ref 3), (1, .ref v1), (2, .int v2), (3, .int v3), (4, .int v4), (5, .int v5)] [] σ := by
  unfold f_X8_cutPiece_93 at h
  refine fhW.blk fhPF fhLL hΓ [(.iconst 0, 0)] (pc' := 94) (lv' := [(0, .ref 3), (1, .ref v1), (2, .int v2), (3, .int v3), (4, .int v4), (5, .int v5)]) (st' := [.int (0 : Int32)]) (σ' := σ) (by decide +kernel) rfl rfl rfl ?_
  refine fhW.sub (lv' := [(0, .ref 3), (1, .ref v1), (2, .int v2), (3, .int v3), (4, .int v4), (5, .int v5)]) [0, 1, 2, 3, 4, 5] rfl ?_
  exact L_X8_cutPiece_94 hE hΓ hd v1 v2 v3 v4 v5 (0 : Int32) hv1 σ _ h hk
set_option maxRecDepth 100000 in
set_option maxHeartbeats 4000000 in
theorem L_X8_cutPiece_47 {Γ : fhX} (hE : fhEok fhYF (fhEn Γ)) (hΓ : fhOk fhYF 8 cX8_cutPiece 9 (some .int) Γ) (hd : 7 ≤ fhD Γ) (v1 : Nat) (v2 : Int32) (v3 : Int32) (v4 : Int32) (hv1 : fhiC v1 = true) (σ : fhM) (o : Int32 × fhM) (h : f_X8_cutPiece_47 v1 v2 v3 v4 σ = some o) (hk : (fun o => fhRet Γ (some (.int o.1)) o.2) o) : fhW fhYF Γ 47 [(0, .ref 3), (1, .ref v1), (2, .int v2), (3, .int v3), (4, .int v4)] [] σ := by
  unfold f_X8_cutPiece_47 at h
  refine fhW.blk fhPF fhLL hΓ [(.iconst 5, 5), (.aload_n 0, 0), (.getfield 30, 0), (.imul, 0), (.istore 5, 0), (.aload_n 0, 0), (.getfield 16, 0), (.iload 5, 0), (.iconst 5, 5), (.isub, 0), (.iconst 1, 1), (.iadd, 0)] (pc' := 65) (lv' := [(5, .int ((5 : Int32) * (σ.1 3 1))), (0, .ref 3), (1, .ref v1), (2, .int v2), (3, .int v3), (4, .int v4)]) (st' := [.int ((((5 : Int32) * (σ.1 3 1)) - (5 : Int32)) + (1 : Int32)), .ref 4]) (σ' := σ) (by decide +kernel) rfl rfl rfl ?_
  refine fhW.callv hΓ mvX2_get ml_8_36 (t := 4) (ci := 2) (av := [.int ((((5 : Int32) * (σ.1 3 1)) - (5 : Int32)) + (1 : Int32))]) (rest := []) (r := (some (.int (fcG σ 4 ((((5 : Int32) * (σ.1 3 1)) - (5 : Int32)) + (1 : Int32)))))) (σ' := σ) (T_X2_get (E := fhEn Γ) (d := fhD Γ - 1) hE (by omega) 4 ((((5 : Int32) * (σ.1 3 1)) - (5 : Int32)) + (1 : Int32)) rfl σ) (by omega) (by decide +kernel) rfl rfl rfl (Nat.le_of_ble_eq_true rfl) rfl ?_
  show fhW fhYF Γ 68 [(5, .int ((5 : Int32) * (σ.1 3 1))), (0, .ref 3), (1, .ref v1), (2, .int v2), (3, .int v3), (4, .int v4)] [.int (fcG σ 4 ((((5 : Int32) * (σ.1 3 1)) - (5 : Int32)) + (1 : Int32)))] σ
  refine fhW.blk fhPF fhLL hΓ [(.iload_n 2, 0)] (pc' := 69) (lv' := [(5, .int ((5 : Int32) * (σ.1 3 1))), (0, .ref 3), (1, .ref v1), (2, .int v2), (3, .int v3), (4, .int v4)]) (st' := [.int v2, .int (fcG σ 4 ((((5 : Int32) * (σ.1 3 1)) - (5 : Int32)) + (1 : Int32)))]) (σ' := σ) (by decide +kernel) rfl rfl rfl ?_
  refine fhW.i_ne hΓ (tgt := 93) (show fhbk _ _ (.if_icmp .ne (24)) _ = true by decide +kernel) (fun hc => ?_) (fun hc => ?_)
  · rw [if_neg hc] at h
    refine fhW.sub (lv' := [(0, .ref 3), (1, .ref v1), (2, .int v2), (3, .int v3), (4, .int v4), (5, .int ((5 : Int32) * (σ.1 3 1)))]) [1, 2, 3, 4, 5, 0] rfl ?_
    exact L_X8_cutPiece_93 hE hΓ hd v1 v2 v3 v4 ((5 : Int32) * (σ.1 3 1)) hv1 σ _ h hk
  · rw [if_pos hc] at h
    refine fhW.blk fhPF fhLL hΓ [(.aload_n 0, 0), (.getfield 16, 0), (.iload 5, 0), (.iconst 5, 5), (.isub, 0), (.iconst 2, 2), (.iadd, 0)] (pc' := 82) (lv' := [(5, .int ((5 : Int32) * (σ.1 3 1))), (0, .ref 3), (1, .ref v1), (2, .int v2), (3, .int v3), (4, .int v4)]) (st' := [.int ((((5 : Int32) * (σ.1 3 1)) - (5 : Int32)) + (2 : Int32)), .ref 4]) (σ' := σ) (by decide +kernel) rfl rfl rfl ?_
    refine fhW.callv hΓ mvX2_get ml_8_36 (t := 4) (ci := 2) (av := [.int ((((5 : Int32) * (σ.1 3 1)) - (5 : Int32)) + (2 : Int32))]) (rest := []) (r := (some (.int (fcG σ 4 ((((5 : Int32) * (σ.1 3 1)) - (5 : Int32)) + (2 : Int32)))))) (σ' := σ) (T_X2_get (E := fhEn Γ) (d := fhD Γ - 1) hE (by omega) 4 ((((5 : Int32) * (σ.1 3 1)) - (5 : Int32)) + (2 : Int32)) rfl σ) (by omega) (by decide +kernel) rfl rfl rfl (Nat.le_of_ble_eq_true rfl) rfl ?_
    show fhW fhYF Γ 85 [(5, .int ((5 : Int32) * (σ.1 3 1))), (0, .ref 3), (1, .ref v1), (2, .int v2), (3, .int v3), (4, .int v4)] [.int (fcG σ 4 ((((5 : Int32) * (σ.1 3 1)) - (5 : Int32)) + (2 : Int32)))] σ
    refine fhW.blk fhPF fhLL hΓ [(.iconst 3, 3)] (pc' := 86) (lv' := [(5, .int ((5 : Int32) * (σ.1 3 1))), (0, .ref 3), (1, .ref v1), (2, .int v2), (3, .int v3), (4, .int v4)]) (st' := [.int (3 : Int32), .int (fcG σ 4 ((((5 : Int32) * (σ.1 3 1)) - (5 : Int32)) + (2 : Int32)))]) (σ' := σ) (by decide +kernel) rfl rfl rfl ?_
    refine fhW.i_eq hΓ (tgt := 93) (show fhbk _ _ (.if_icmp .eq (7)) _ = true by decide +kernel) (fun hc => ?_) (fun hc => ?_)
    · rw [if_pos hc] at h
      refine fhW.sub (lv' := [(0, .ref 3), (1, .ref v1), (2, .int v2), (3, .int v3), (4, .int v4), (5, .int ((5 : Int32) * (σ.1 3 1)))]) [1, 2, 3, 4, 5, 0] rfl ?_
      exact L_X8_cutPiece_93 hE hΓ hd v1 v2 v3 v4 ((5 : Int32) * (σ.1 3 1)) hv1 σ _ h hk
    · rw [if_neg hc] at h
      refine fhW.blk fhPF fhLL hΓ [(.iconst 1, 1)] (pc' := 90) (lv' := [(5, .int ((5 : Int32) * (σ.1 3 1))), (0, .ref 3), (1, .ref v1), (2, .int v2), (3, .int v3), (4, .int v4)]) (st' := [.int (1 : Int32)]) (σ' := σ) (by decide +kernel) rfl rfl rfl ?_
      refine fhW.goto hΓ (off := 4) (tgt := 94) (by decide +kernel) ?_
      refine fhW.sub (lv' := [(0, .ref 3), (1, .ref v1), (2, .int v2), (3, .int v3), (4, .int v4), (5, .int ((5 : Int32) * (σ.1 3 1)))]) [1, 2, 3, 4, 5, 0] rfl ?_
      exact L_X8_cutPiece_94 hE hΓ hd v1 v2 v3 v4 ((5 : Int32) * (σ.1 3 1)) (1 : Int32) hv1 σ _ h hk
set_option maxRecDepth 100000 in
set_option maxHeartbeats 4000000 in
theorem L_X8_cutPiece_14 {Γ : fhX} (hE : fhEok fhYF (fhEn Γ)) (hΓ : fhOk fhYF 8 cX8_cutPiece 9 (some .int) Γ) (hd : 7 ≤ fhD Γ) (v1 : Nat) (v2 : Int32) (v3 : Int32) (v4 : Int32) (hv1 : fhiC v1 = true) (σ : fhM) (o : (Int32) ⊕ (Int32 × fhM)) (h : f_X8_cutPiece_14 v1 v2 v3 v4 σ = some o) (hk : (fhK (fun x => fhW fhYF Γ 14 [(0, .ref 3), (1, .ref v1), (2, .int v2), (3, .int v3), (4, .int x)] [] σ) (fun o => fhRet Γ (some (.int o.1)) o.2)) o) : fhW fhYF Γ 14 [(0, .ref 3), (1, .ref v1), (2, .int v2), (3, .int v3), (4, .int v4)] [] σ := by
  unfold f_X8_cutPiece_14 at h
  refine fhW.blk fhPF fhLL hΓ [(.iload 4, 0), (.aload_n 0, 0), (.getfield 20, 0)] (pc' := 20) (lv' := [(0, .ref 3), (1, .ref v1), (2, .int v2), (3, .int v3), (4, .int v4)]) (st' := [.int (σ.1 3 3), .int v4]) (σ' := σ) (by decide +kernel) rfl rfl rfl ?_
  refine fhW.i_ge hΓ (tgt := 47) (show fhbk _ _ (.if_icmp .ge (27)) _ = true by decide +kernel) (fun hc => ?_) (fun hc => ?_)
  · rw [if_pos hc] at h
    refine fhW.sub (lv' := [(0, .ref 3), (1, .ref v1), (2, .int v2), (3, .int v3), (4, .int v4)]) [0, 1, 2, 3, 4] rfl ?_
    obtain ⟨z1, hz, e1⟩ := Option.map_eq_some_iff.mp h
    clear h
    subst e1
    have h := hz
    have hk : (fun o => fhRet Γ (some (.int o.1)) o.2) z1 := hk
    exact L_X8_cutPiece_47 hE hΓ hd v1 v2 v3 v4 hv1 σ _ h hk
  · rw [if_neg hc] at h
    refine fhW.blk fhPF fhLL hΓ [(.iload_n 3, 0), (.iconst 3, 3)] (pc' := 25) (lv' := [(0, .ref 3), (1, .ref v1), (2, .int v2), (3, .int v3), (4, .int v4)]) (st' := [.int (3 : Int32), .int v3]) (σ' := σ) (by decide +kernel) rfl rfl rfl ?_
    refine fhW.i_eq hΓ (tgt := 47) (show fhbk _ _ (.if_icmp .eq (22)) _ = true by decide +kernel) (fun hc => ?_) (fun hc => ?_)
    · rw [if_pos hc] at h
      refine fhW.sub (lv' := [(0, .ref 3), (1, .ref v1), (2, .int v2), (3, .int v3), (4, .int v4)]) [0, 1, 2, 3, 4] rfl ?_
      obtain ⟨z2, hz, e2⟩ := Option.map_eq_some_iff.mp h
      clear h
      subst e2
      have h := hz
      have hk : (fun o => fhRet Γ (some (.int o.1)) o.2) z2 := hk
      exact L_X8_cutPiece_47 hE hΓ hd v1 v2 v3 v4 hv1 σ _ h hk
    · rw [if_neg hc] at h
      refine fhW.blk fhPF fhLL hΓ [(.aload_n 1, 0), (.iload 4, 0)] (pc' := 31) (lv' := [(0, .ref 3), (1, .ref v1), (2, .int v2), (3, .int v3), (4, .int v4)]) (st' := [.int v4, .ref v1]) (σ' := σ) (by decide +kernel) rfl rfl rfl ?_
      refine fhW.callv hΓ mvX2_get ml_8_36 (t := v1) (ci := 2) (av := [.int v4]) (rest := []) (r := (some (.int (fcG σ v1 v4)))) (σ' := σ) (T_X2_get (E := fhEn Γ) (d := fhD Γ - 1) hE (by omega) v1 v4 hv1 σ) (by omega) (by decide +kernel) rfl (fhiC_g hv1) rfl (Nat.le_of_ble_eq_true rfl) rfl ?_
      show fhW fhYF Γ 34 [(0, .ref 3), (1, .ref v1), (2, .int v2), (3, .int v3), (4, .int v4)] [.int (fcG σ v1 v4)] σ
      refine fhW.calls hΓ msX8_sortOf ml_8_47 (av := [.int (fcG σ v1 v4)]) (rest := []) (r := (some (.int (f_X8_sortOf (fcG σ v1 v4) σ)))) (σ' := σ) (T_X8_sortOf (E := fhEn Γ) (d := fhD Γ - 1) hE (by omega) (fcG σ v1 v4) σ) (by omega) (by decide +kernel) rfl (Nat.le_of_ble_eq_true rfl) rfl ?_
      show fhW fhYF Γ 37 [(0, .ref 3), (1, .ref v1), (2, .int v2), (3, .int v3), (4, .int v4)] [.int (f_X8_sortOf (fcG σ v1 v4) σ)] σ
      refine fhW.blk fhPF fhLL hΓ [(.iload_n 3, 0)] (pc' := 38) (lv' := [(0, .ref 3), (1, .ref v1), (2, .int v2), (3, .int v3), (4, .int v4)]) (st' := [.int v3, .int (f_X8_sortOf (fcG σ v1 v4) σ)]) (σ' := σ) (by decide +kernel) rfl rfl rfl ?_
      refine fhW.i_ne hΓ (tgt := 47) (show fhbk _ _ (.if_icmp .ne (9)) _ = true by decide +kernel) (fun hc => ?_) (fun hc => ?_)
      · rw [if_neg hc] at h
        refine fhW.sub (lv' := [(0, .ref 3), (1, .ref v1), (2, .int v2), (3, .int v3), (4, .int v4)]) [0, 1, 2, 3, 4] rfl ?_
        obtain ⟨z3, hz, e3⟩ := Option.map_eq_some_iff.mp h
        clear h
        subst e3
        have h := hz
        have hk : (fun o => fhRet Γ (some (.int o.1)) o.2) z3 := hk
        exact L_X8_cutPiece_47 hE hΓ hd v1 v2 v3 v4 hv1 σ _ h hk
      · rw [if_pos hc] at h
        refine fhW.blk fhPF fhLL hΓ [(.iinc 4 1, 1)] (pc' := 44) (lv' := [(4, .int (v4 + (1 : Int32))), (0, .ref 3), (1, .ref v1), (2, .int v2), (3, .int v3)]) (st' := []) (σ' := σ) (by decide +kernel) rfl rfl rfl ?_
        refine fhW.goto hΓ (off := (-30)) (tgt := 14) (by decide +kernel) ?_
        refine fhW.sub (lv' := [(0, .ref 3), (1, .ref v1), (2, .int v2), (3, .int v3), (4, .int (v4 + (1 : Int32)))]) [1, 2, 3, 4, 0] rfl ?_
        have e9 := Option.some.inj h
        subst e9
        exact hk
set_option maxRecDepth 100000 in
set_option maxHeartbeats 4000000 in
theorem L_X8_cutPiece_E {Γ : fhX} (hE : fhEok fhYF (fhEn Γ)) (hΓ : fhOk fhYF 8 cX8_cutPiece 9 (some .int) Γ) (hd : 7 ≤ fhD Γ) (v1 : Nat) (v2 : Int32) (hv1 : fhiC v1 = true) (σ : fhM) (o : Int32 × fhM) (h : f_X8_cutPiece v1 v2 σ = some o) (hk : (fun o => fhRet Γ (some (.int o.1)) o.2) o) : fhW fhYF Γ 0 [(0, .ref 3), (1, .ref v1), (2, .int v2)] [] σ := by
  unfold f_X8_cutPiece at h
  refine fhW.blk fhPF fhLL hΓ [(.aload_n 1, 0), (.iload_n 2, 0)] (pc' := 2) (lv' := [(0, .ref 3), (1, .ref v1), (2, .int v2)]) (st' := [.int v2, .ref v1]) (σ' := σ) (by decide +kernel) rfl rfl rfl ?_
  refine fhW.callv hΓ mvX2_get ml_8_36 (t := v1) (ci := 2) (av := [.int v2]) (rest := []) (r := (some (.int (fcG σ v1 v2)))) (σ' := σ) (T_X2_get (E := fhEn Γ) (d := fhD Γ - 1) hE (by omega) v1 v2 hv1 σ) (by omega) (by decide +kernel) rfl (fhiC_g hv1) rfl (Nat.le_of_ble_eq_true rfl) rfl ?_
  show fhW fhYF Γ 5 [(0, .ref 3), (1, .ref v1), (2, .int v2)] [.int (fcG σ v1 v2)] σ
  refine fhW.calls hΓ msX8_sortOf ml_8_47 (av := [.int (fcG σ v1 v2)]) (rest := []) (r := (some (.int (f_X8_sortOf (fcG σ v1 v2) σ)))) (σ' := σ) (T_X8_sortOf (E := fhEn Γ) (d := fhD Γ - 1) hE (by omega) (fcG σ v1 v2) σ) (by omega) (by decide +kernel) rfl (Nat.le_of_ble_eq_true rfl) rfl ?_
  show fhW fhYF Γ 8 [(0, .ref 3), (1, .ref v1), (2, .int v2)] [.int (f_X8_sortOf (fcG σ v1 v2) σ)] σ
  refine fhW.blk fhPF fhLL hΓ [(.istore_n 3, 0), (.iload_n 2, 0), (.iconst 1, 1), (.iadd, 0), (.istore 4, 0)] (pc' := 14) (lv' := [(4, .int (v2 + (1 : Int32))), (3, .int (f_X8_sortOf (fcG σ v1 v2) σ)), (0, .ref 3), (1, .ref v1), (2, .int v2)]) (st' := []) (σ' := σ) (by decide +kernel) rfl rfl rfl ?_
  refine fhW.sub (lv' := [(0, .ref 3), (1, .ref v1), (2, .int v2), (3, .int (f_X8_sortOf (fcG σ v1 v2) σ)), (4, .int (v2 + (1 : Int32)))]) [2, 3, 4, 1, 0] rfl ?_
  exact fhlp_ok (W := (fun x => fhW fhYF Γ 14 [(0, .ref 3), (1, .ref v1), (2, .int v2), (3, .int (f_X8_sortOf (fcG σ v1 v2) σ)), (4, .int x)] [] σ)) (B := (fun o => fhRet Γ (some (.int o.1)) o.2)) (fun x o h hk => L_X8_cutPiece_14 hE hΓ hd v1 v2 (f_X8_sortOf (fcG σ v1 v2) σ) x hv1 σ o h hk) (v2 + (1 : Int32)) _ h hk
set_option maxRecDepth 100000 in
theorem T_X8_cutPiece {E : fhE} {d : Nat} (hE : fhEok fhYF E) (hd : 7 ≤ d) (v1 : Nat) (v2 : Int32) (hv1 : fhiC v1 = true) (σ : fhM) {o : Int32 × fhM} (h : f_X8_cutPiece v1 v2 σ = some o) : fhC fhYF E d miX8_cutPiece [.ref 3, .ref v1, .int v2] σ (some (.int o.1)) o.2 := by
  refine fhC.of (y := yX8_cutPiece) (cc := cX8_cutPiece) (nL := 9) (ret := (some .int)) 8 rfl (by decide +kernel) (Nat.le_of_ble_eq_true rfl) ?_
  intro Γ hΓ hR hD hEn
  subst hD; subst hEn
  exact L_X8_cutPiece_E hE hΓ hd v1 v2 hv1 σ _ h hR
set_option maxRecDepth 100000 in
set_option maxHeartbeats 4000000 in
theorem L_X8_advance_E {Γ : fhX} (hE : fhEok fhYF (fhEn Γ)) (hΓ : fhOk fhYF 8 cX8_advance 2 none Γ) (hd : 1 ≤ fhD Γ)   (σ : fhM) (o : fhM) (h : f_X8_advance σ = o) (hk : (fun o => fhRet Γ none o) o) : fhW fhYF Γ 0 [(0, .ref 3)] [] σ := by
  unfold f_X8_advance at h
  refine fhW.blk fhPF fhLL hΓ [(.aload_n 0, 0), (.getfield 24, 0)] (pc' := 4) (lv' := [(0, .ref 3)]) (st' := [.int (σ.1 3 9)]) (σ' := σ) (by decide +kernel) rfl rfl rfl ?_
  refine fhW.z_eq hΓ (tgt := 8) (show fhbk _ _ (.ifCond .eq (4)) _ = true by decide +kernel) (fun hc => ?_) (fun hc => ?_)
  · rw [if_pos hc] at h
    refine fhW.blk fhPF fhLL hΓ [(.aload_n 0, 0), (.getfield 33, 0), (.aload_n 0, 0), (.getfield 30, 0)] (pc' := 16) (lv' := [(0, .ref 3)]) (st' := [.int (σ.1 3 1), .int (σ.1 3 2)]) (σ' := σ) (by decide +kernel) rfl rfl rfl ?_
    refine fhW.i_lt hΓ (tgt := 41) (show fhbk _ _ (.if_icmp .lt (25)) _ = true by decide +kernel) (fun hc => ?_) (fun hc => ?_)
    · rw [if_pos hc] at h
      refine fhW.blk fhPF fhLL hΓ [(.iconst 5, 5), (.aload_n 0, 0), (.getfield 33, 0), (.imul, 0), (.istore_n 1, 0), (.aload_n 0, 0), (.aload_n 0, 0), (.getfield 16, 0), (.iload_n 1, 0)] (pc' := 54) (lv' := [(1, .int ((5 : Int32) * (σ.1 3 2))), (0, .ref 3)]) (st' := [.int ((5 : Int32) * (σ.1 3 2)), .ref 4, .ref 3]) (σ' := σ) (by decide +kernel) rfl rfl rfl ?_
      refine fhW.callv hΓ mvX2_get ml_8_36 (t := 4) (ci := 2) (av := [.int ((5 : Int32) * (σ.1 3 2))]) (rest := [.ref 3]) (r := (some (.int (fcG σ 4 ((5 : Int32) * (σ.1 3 2)))))) (σ' := σ) (T_X2_get (E := fhEn Γ) (d := fhD Γ - 1) hE (by omega) 4 ((5 : Int32) * (σ.1 3 2)) rfl σ) (by omega) (by decide +kernel) rfl rfl rfl (Nat.le_of_ble_eq_true rfl) rfl ?_
      show fhW fhYF Γ 57 [(1, .int ((5 : Int32) * (σ.1 3 2))), (0, .ref 3)] [.int (fcG σ 4 ((5 : Int32) * (σ.1 3 2))), .ref 3] σ
      refine fhW.blk fhPF fhLL hΓ [(.putfield 78, 0), (.aload_n 0, 0), (.aload_n 0, 0), (.getfield 16, 0), (.iload_n 1, 0), (.iconst 1, 1), (.iadd, 0)] (pc' := 68) (lv' := [(1, .int ((5 : Int32) * (σ.1 3 2))), (0, .ref 3)]) (st' := [.int (((5 : Int32) * (σ.1 3 2)) + (1 : Int32)), .ref 4, .ref 3]) (σ' := (fhI σ 3 8 (fcG σ 4 ((5 : Int32) * (σ.1 3 2))))) (by decide +kernel) rfl rfl rfl ?_
      refine fhW.callv hΓ mvX2_get ml_8_36 (t := 4) (ci := 2) (av := [.int (((5 : Int32) * (σ.1 3 2)) + (1 : Int32))]) (rest := [.ref 3]) (r := (some (.int (fcG (fhI σ 3 8 (fcG σ 4 ((5 : Int32) * (σ.1 3 2)))) 4 (((5 : Int32) * (σ.1 3 2)) + (1 : Int32)))))) (σ' := (fhI σ 3 8 (fcG σ 4 ((5 : Int32) * (σ.1 3 2))))) (T_X2_get (E := fhEn Γ) (d := fhD Γ - 1) hE (by omega) 4 (((5 : Int32) * (σ.1 3 2)) + (1 : Int32)) rfl (fhI σ 3 8 (fcG σ 4 ((5 : Int32) * (σ.1 3 2))))) (by omega) (by decide +kernel) rfl rfl rfl (Nat.le_of_ble_eq_true rfl) rfl ?_
      show fhW fhYF Γ 71 [(1, .int ((5 : Int32) * (σ.1 3 2))), (0, .ref 3)] [.int (fcG (fhI σ 3 8 (fcG σ 4 ((5 : Int32) * (σ.1 3 2)))) 4 (((5 : Int32) * (σ.1 3 2)) + (1 : Int32))), .ref 3] (fhI σ 3 8 (fcG σ 4 ((5 : Int32) * (σ.1 3 2))))
      refine fhW.blk fhPF fhLL hΓ [(.putfield 84, 0), (.aload_n 0, 0), (.aload_n 0, 0), (.getfield 16, 0), (.iload_n 1, 0), (.iconst 2, 2), (.iadd, 0)] (pc' := 82) (lv' := [(1, .int ((5 : Int32) * (σ.1 3 2))), (0, .ref 3)]) (st' := [.int (((5 : Int32) * (σ.1 3 2)) + (2 : Int32)), .ref 4, .ref 3]) (σ' := (fhI (fhI σ 3 8 (fcG σ 4 ((5 : Int32) * (σ.1 3 2)))) 3 5 (fcG (fhI σ 3 8 (fcG σ 4 ((5 : Int32) * (σ.1 3 2)))) 4 (((5 : Int32) * (σ.1 3 2)) + (1 : Int32))))) (by decide +kernel) rfl rfl rfl ?_
      refine fhW.callv hΓ mvX2_get ml_8_36 (t := 4) (ci := 2) (av := [.int (((5 : Int32) * (σ.1 3 2)) + (2 : Int32))]) (rest := [.ref 3]) (r := (some (.int (fcG (fhI (fhI σ 3 8 (fcG σ 4 ((5 : Int32) * (σ.1 3 2)))) 3 5 (fcG (fhI σ 3 8 (fcG σ 4 ((5 : Int32) * (σ.1 3 2)))) 4 (((5 : Int32) * (σ.1 3 2)) + (1 : Int32)))) 4 (((5 : Int32) * (σ.1 3 2)) + (2 : Int32)))))) (σ' := (fhI (fhI σ 3 8 (fcG σ 4 ((5 : Int32) * (σ.1 3 2)))) 3 5 (fcG (fhI σ 3 8 (fcG σ 4 ((5 : Int32) * (σ.1 3 2)))) 4 (((5 : Int32) * (σ.1 3 2)) + (1 : Int32))))) (T_X2_get (E := fhEn Γ) (d := fhD Γ - 1) hE (by omega) 4 (((5 : Int32) * (σ.1 3 2)) + (2 : Int32)) rfl (fhI (fhI σ 3 8 (fcG σ 4 ((5 : Int32) * (σ.1 3 2)))) 3 5 (fcG (fhI σ 3 8 (fcG σ 4 ((5 : Int32) * (σ.1 3 2)))) 4 (((5 : Int32) * (σ.1 3 2)) + (1 : Int32))))) (by omega) (by decide +kernel) rfl rfl rfl (Nat.le_of_ble_eq_true rfl) rfl ?_
      show fhW fhYF Γ 85 [(1, .int ((5 : Int32) * (σ.1 3 2))), (0, .ref 3)] [.int (fcG (fhI (fhI σ 3 8 (fcG σ 4 ((5 : Int32) * (σ.1 3 2)))) 3 5 (fcG (fhI σ 3 8 (fcG σ 4 ((5 : Int32) * (σ.1 3 2)))) 4 (((5 : Int32) * (σ.1 3 2)) + (1 : Int32)))) 4 (((5 : Int32) * (σ.1 3 2)) + (2 : Int32))), .ref 3] (fhI (fhI σ 3 8 (fcG σ 4 ((5 : Int32) * (σ.1 3 2)))) 3 5 (fcG (fhI σ 3 8 (fcG σ 4 ((5 : Int32) * (σ.1 3 2)))) 4 (((5 : Int32) * (σ.1 3 2)) + (1 : Int32))))
      refine fhW.blk fhPF fhLL hΓ [(.putfield 75, 0), (.aload_n 0, 0), (.aload_n 0, 0), (.getfield 16, 0), (.iload_n 1, 0), (.iconst 3, 3), (.iadd, 0)] (pc' := 96) (lv' := [(1, .int ((5 : Int32) * (σ.1 3 2))), (0, .ref 3)]) (st' := [.int (((5 : Int32) * (σ.1 3 2)) + (3 : Int32)), .ref 4, .ref 3]) (σ' := (fhI (fhI (fhI σ 3 8 (fcG σ 4 ((5 : Int32) * (σ.1 3 2)))) 3 5 (fcG (fhI σ 3 8 (fcG σ 4 ((5 : Int32) * (σ.1 3 2)))) 4 (((5 : Int32) * (σ.1 3 2)) + (1 : Int32)))) 3 4 (fcG (fhI (fhI σ 3 8 (fcG σ 4 ((5 : Int32) * (σ.1 3 2)))) 3 5 (fcG (fhI σ 3 8 (fcG σ 4 ((5 : Int32) * (σ.1 3 2)))) 4 (((5 : Int32) * (σ.1 3 2)) + (1 : Int32)))) 4 (((5 : Int32) * (σ.1 3 2)) + (2 : Int32))))) (by decide +kernel) rfl rfl rfl ?_
      refine fhW.callv hΓ mvX2_get ml_8_36 (t := 4) (ci := 2) (av := [.int (((5 : Int32) * (σ.1 3 2)) + (3 : Int32))]) (rest := [.ref 3]) (r := (some (.int (fcG (fhI (fhI (fhI σ 3 8 (fcG σ 4 ((5 : Int32) * (σ.1 3 2)))) 3 5 (fcG (fhI σ 3 8 (fcG σ 4 ((5 : Int32) * (σ.1 3 2)))) 4 (((5 : Int32) * (σ.1 3 2)) + (1 : Int32)))) 3 4 (fcG (fhI (fhI σ 3 8 (fcG σ 4 ((5 : Int32) * (σ.1 3 2)))) 3 5 (fcG (fhI σ 3 8 (fcG σ 4 ((5 : Int32) * (σ.1 3 2)))) 4 (((5 : Int32) * (σ.1 3 2)) + (1 : Int32)))) 4 (((5 : Int32) * (σ.1 3 2)) + (2 : Int32)))) 4 (((5 : Int32) * (σ.1 3 2)) + (3 : Int32)))))) (σ' := (fhI (fhI (fhI σ 3 8 (fcG σ 4 ((5 : Int32) * (σ.1 3 2)))) 3 5 (fcG (fhI σ 3 8 (fcG σ 4 ((5 : Int32) * (σ.1 3 2)))) 4 (((5 : Int32) * (σ.1 3 2)) + (1 : Int32)))) 3 4 (fcG (fhI (fhI σ 3 8 (fcG σ 4 ((5 : Int32) * (σ.1 3 2)))) 3 5 (fcG (fhI σ 3 8 (fcG σ 4 ((5 : Int32) * (σ.1 3 2)))) 4 (((5 : Int32) * (σ.1 3 2)) + (1 : Int32)))) 4 (((5 : Int32) * (σ.1 3 2)) + (2 : Int32))))) (T_X2_get (E := fhEn Γ) (d := fhD Γ - 1) hE (by omega) 4 (((5 : Int32) * (σ.1 3 2)) + (3 : Int32)) rfl (fhI (fhI (fhI σ 3 8 (fcG σ 4 ((5 : Int32) * (σ.1 3 2)))) 3 5 (fcG (fhI σ 3 8 (fcG σ 4 ((5 : Int32) * (σ.1 3 2)))) 4 (((5 : Int32) * (σ.1 3 2)) + (1 : Int32)))) 3 4 (fcG (fhI (fhI σ 3 8 (fcG σ 4 ((5 : Int32) * (σ.1 3 2)))) 3 5 (fcG (fhI σ 3 8 (fcG σ 4 ((5 : Int32) * (σ.1 3 2)))) 4 (((5 : Int32) * (σ.1 3 2)) + (1 : Int32)))) 4 (((5 : Int32) * (σ.1 3 2)) + (2 : Int32))))) (by omega) (by decide +kernel) rfl rfl rfl (Nat.le_of_ble_eq_true rfl) rfl ?_
      show fhW fhYF Γ 99 [(1, .int ((5 : Int32) * (σ.1 3 2))), (0, .ref 3)] [.int (fcG (fhI (fhI (fhI σ 3 8 (fcG σ 4 ((5 : Int32) * (σ.1 3 2)))) 3 5 (fcG (fhI σ 3 8 (fcG σ 4 ((5 : Int32) * (σ.1 3 2)))) 4 (((5 : Int32) * (σ.1 3 2)) + (1 : Int32)))) 3 4 (fcG (fhI (fhI σ 3 8 (fcG σ 4 ((5 : Int32) * (σ.1 3 2)))) 3 5 (fcG (fhI σ 3 8 (fcG σ 4 ((5 : Int32) * (σ.1 3 2)))) 4 (((5 : Int32) * (σ.1 3 2)) + (1 : Int32)))) 4 (((5 : Int32) * (σ.1 3 2)) + (2 : Int32)))) 4 (((5 : Int32) * (σ.1 3 2)) + (3 : Int32))), .ref 3] (fhI (fhI (fhI σ 3 8 (fcG σ 4 ((5 : Int32) * (σ.1 3 2)))) 3 5 (fcG (fhI σ 3 8 (fcG σ 4 ((5 : Int32) * (σ.1 3 2)))) 4 (((5 : Int32) * (σ.1 3 2)) + (1 : Int32)))) 3 4 (fcG (fhI (fhI σ 3 8 (fcG σ 4 ((5 : Int32) * (σ.1 3 2)))) 3 5 (fcG (fhI σ 3 8 (fcG σ 4 ((5 : Int32) * (σ.1 3 2)))) 4 (((5 : Int32) * (σ.1 3 2)) + (1 : Int32)))) 4 (((5 : Int32) * (σ.1 3 2)) + (2 : Int32))))
      refine fhW.blk fhPF fhLL hΓ [(.putfield 87, 0), (.aload_n 0, 0), (.aload_n 0, 0), (.getfield 16, 0), (.iload_n 1, 0), (.iconst 4, 4), (.iadd, 0)] (pc' := 110) (lv' := [(1, .int ((5 : Int32) * (σ.1 3 2))), (0, .ref 3)]) (st' := [.int (((5 : Int32) * (σ.1 3 2)) + (4 : Int32)), .ref 4, .ref 3]) (σ' := (fhI (fhI (fhI (fhI σ 3 8 (fcG σ 4 ((5 : Int32) * (σ.1 3 2)))) 3 5 (fcG (fhI σ 3 8 (fcG σ 4 ((5 : Int32) * (σ.1 3 2)))) 4 (((5 : Int32) * (σ.1 3 2)) + (1 : Int32)))) 3 4 (fcG (fhI (fhI σ 3 8 (fcG σ 4 ((5 : Int32) * (σ.1 3 2)))) 3 5 (fcG (fhI σ 3 8 (fcG σ 4 ((5 : Int32) * (σ.1 3 2)))) 4 (((5 : Int32) * (σ.1 3 2)) + (1 : Int32)))) 4 (((5 : Int32) * (σ.1 3 2)) + (2 : Int32)))) 3 6 (fcG (fhI (fhI (fhI σ 3 8 (fcG σ 4 ((5 : Int32) * (σ.1 3 2)))) 3 5 (fcG (fhI σ 3 8 (fcG σ 4 ((5 : Int32) * (σ.1 3 2)))) 4 (((5 : Int32) * (σ.1 3 2)) + (1 : Int32)))) 3 4 (fcG (fhI (fhI σ 3 8 (fcG σ 4 ((5 : Int32) * (σ.1 3 2)))) 3 5 (fcG (fhI σ 3 8 (fcG σ 4 ((5 : Int32) * (σ.1 3 2)))) 4 (((5 : Int32) * (σ.1 3 2)) + (1 : Int32)))) 4 (((5 : Int32) * (σ.1 3 2)) + (2 : Int32)))) 4 (((5 : Int32) * (σ.1 3 2)) + (3 : Int32))))) (by decide +kernel) rfl rfl rfl ?_
      refine fhW.callv hΓ mvX2_get ml_8_36 (t := 4) (ci := 2) (av := [.int (((5 : Int32) * (σ.1 3 2)) + (4 : Int32))]) (rest := [.ref 3]) (r := (some (.int (fcG (fhI (fhI (fhI (fhI σ 3 8 (fcG σ 4 ((5 : Int32) * (σ.1 3 2)))) 3 5 (fcG (fhI σ 3 8 (fcG σ 4 ((5 : Int32) * (σ.1 3 2)))) 4 (((5 : Int32) * (σ.1 3 2)) + (1 : Int32)))) 3 4 (fcG (fhI (fhI σ 3 8 (fcG σ 4 ((5 : Int32) * (σ.1 3 2)))) 3 5 (fcG (fhI σ 3 8 (fcG σ 4 ((5 : Int32) * (σ.1 3 2)))) 4 (((5 : Int32) * (σ.1 3 2)) + (1 : Int32)))) 4 (((5 : Int32) * (σ.1 3 2)) + (2 : Int32)))) 3 6 (fcG (fhI (fhI (fhI σ 3 8 (fcG σ 4 ((5 : Int32) * (σ.1 3 2)))) 3 5 (fcG (fhI σ 3 8 (fcG σ 4 ((5 : Int32) * (σ.1 3 2)))) 4 (((5 : Int32) * (σ.1 3 2)) + (1 : Int32)))) 3 4 (fcG (fhI (fhI σ 3 8 (fcG σ 4 ((5 : Int32) * (σ.1 3 2)))) 3 5 (fcG (fhI σ 3 8 (fcG σ 4 ((5 : Int32) * (σ.1 3 2)))) 4 (((5 : Int32) * (σ.1 3 2)) + (1 : Int32)))) 4 (((5 : Int32) * (σ.1 3 2)) + (2 : Int32)))) 4 (((5 : Int32) * (σ.1 3 2)) + (3 : Int32)))) 4 (((5 : Int32) * (σ.1 3 2)) + (4 : Int32)))))) (σ' := (fhI (fhI (fhI (fhI σ 3 8 (fcG σ 4 ((5 : Int32) * (σ.1 3 2)))) 3 5 (fcG (fhI σ 3 8 (fcG σ 4 ((5 : Int32) * (σ.1 3 2)))) 4 (((5 : Int32) * (σ.1 3 2)) + (1 : Int32)))) 3 4 (fcG (fhI (fhI σ 3 8 (fcG σ 4 ((5 : Int32) * (σ.1 3 2)))) 3 5 (fcG (fhI σ 3 8 (fcG σ 4 ((5 : Int32) * (σ.1 3 2)))) 4 (((5 : Int32) * (σ.1 3 2)) + (1 : Int32)))) 4 (((5 : Int32) * (σ.1 3 2)) + (2 : Int32)))) 3 6 (fcG (fhI (fhI (fhI σ 3 8 (fcG σ 4 ((5 : Int32) * (σ.1 3 2)))) 3 5 (fcG (fhI σ 3 8 (fcG σ 4 ((5 : Int32) * (σ.1 3 2)))) 4 (((5 : Int32) * (σ.1 3 2)) + (1 : Int32)))) 3 4 (fcG (fhI (fhI σ 3 8 (fcG σ 4 ((5 : Int32) * (σ.1 3 2)))) 3 5 (fcG (fhI σ 3 8 (fcG σ 4 ((5 : Int32) * (σ.1 3 2)))) 4 (((5 : Int32) * (σ.1 3 2)) + (1 : Int32)))) 4 (((5 : Int32) * (σ.1 3 2)) + (2 : Int32)))) 4 (((5 : Int32) * (σ.1 3 2)) + (3 : Int32))))) (T_X2_get (E := fhEn Γ) (d := fhD Γ - 1) hE (by omega) 4 (((5 : Int32) * (σ.1 3 2)) + (4 : Int32)) rfl (fhI (fhI (fhI (fhI σ 3 8 (fcG σ 4 ((5 : Int32) * (σ.1 3 2)))) 3 5 (fcG (fhI σ 3 8 (fcG σ 4 ((5 : Int32) * (σ.1 3 2)))) 4 (((5 : Int32) * (σ.1 3 2)) + (1 : Int32)))) 3 4 (fcG (fhI (fhI σ 3 8 (fcG σ 4 ((5 : Int32) * (σ.1 3 2)))) 3 5 (fcG (fhI σ 3 8 (fcG σ 4 ((5 : Int32) * (σ.1 3 2)))) 4 (((5 : Int32) * (σ.1 3 2)) + (1 : Int32)))) 4 (((5 : Int32) * (σ.1 3 2)) + (2 : Int32)))) 3 6 (fcG (fhI (fhI (fhI σ 3 8 (fcG σ 4 ((5 : Int32) * (σ.1 3 2)))) 3 5 (fcG (fhI σ 3 8 (fcG σ 4 ((5 : Int32) * (σ.1 3 2)))) 4 (((5 : Int32) * (σ.1 3 2)) + (1 : Int32)))) 3 4 (fcG (fhI (fhI σ 3 8 (fcG σ 4 ((5 : Int32) * (σ.1 3 2)))) 3 5 (fcG (fhI σ 3 8 (fcG σ 4 ((5 : Int32) * (σ.1 3 2)))) 4 (((5 : Int32) * (σ.1 3 2)) + (1 : Int32)))) 4 (((5 : Int32) * (σ.1 3 2)) + (2 : Int32)))) 4 (((5 : Int32) * (σ.1 3 2)) + (3 : Int32))))) (by omega) (by decide +kernel) rfl rfl rfl (Nat.le_of_ble_eq_true rfl) rfl ?_
      show fhW fhYF Γ 113 [(1, .int ((5 : Int32) * (σ.1 3 2))), (0, .ref 3)] [.int (fcG (fhI (fhI (fhI (fhI σ 3 8 (fcG σ 4 ((5 : Int32) * (σ.1 3 2)))) 3 5 (fcG (fhI σ 3 8 (fcG σ 4 ((5 : Int32) * (σ.1 3 2)))) 4 (((5 : Int32) * (σ.1 3 2)) + (1 : Int32)))) 3 4 (fcG (fhI (fhI σ 3 8 (fcG σ 4 ((5 : Int32) * (σ.1 3 2)))) 3 5 (fcG (fhI σ 3 8 (fcG σ 4 ((5 : Int32) * (σ.1 3 2)))) 4 (((5 : Int32) * (σ.1 3 2)) + (1 : Int32)))) 4 (((5 : Int32) * (σ.1 3 2)) + (2 : Int32)))) 3 6 (fcG (fhI (fhI (fhI σ 3 8 (fcG σ 4 ((5 : Int32) * (σ.1 3 2)))) 3 5 (fcG (fhI σ 3 8 (fcG σ 4 ((5 : Int32) * (σ.1 3 2)))) 4 (((5 : Int32) * (σ.1 3 2)) + (1 : Int32)))) 3 4 (fcG (fhI (fhI σ 3 8 (fcG σ 4 ((5 : Int32) * (σ.1 3 2)))) 3 5 (fcG (fhI σ 3 8 (fcG σ 4 ((5 : Int32) * (σ.1 3 2)))) 4 (((5 : Int32) * (σ.1 3 2)) + (1 : Int32)))) 4 (((5 : Int32) * (σ.1 3 2)) + (2 : Int32)))) 4 (((5 : Int32) * (σ.1 3 2)) + (3 : Int32)))) 4 (((5 : Int32) * (σ.1 3 2)) + (4 : Int32))), .ref 3] (fhI (fhI (fhI (fhI σ 3 8 (fcG σ 4 ((5 : Int32) * (σ.1 3 2)))) 3 5 (fcG (fhI σ 3 8 (fcG σ 4 ((5 : Int32) * (σ.1 3 2)))) 4 (((5 : Int32) * (σ.1 3 2)) + (1 : Int32)))) 3 4 (fcG (fhI (fhI σ 3 8 (fcG σ 4 ((5 : Int32) * (σ.1 3 2)))) 3 5 (fcG (fhI σ 3 8 (fcG σ 4 ((5 : Int32) * (σ.1 3 2)))) 4 (((5 : Int32) * (σ.1 3 2)) + (1 : Int32)))) 4 (((5 : Int32) * (σ.1 3 2)) + (2 : Int32)))) 3 6 (fcG (fhI (fhI (fhI σ 3 8 (fcG σ 4 ((5 : Int32) * (σ.1 3 2)))) 3 5 (fcG (fhI σ 3 8 (fcG σ 4 ((5 : Int32) * (σ.1 3 2)))) 4 (((5 : Int32) * (σ.1 3 2)) + (1 : Int32)))) 3 4 (fcG (fhI (fhI σ 3 8 (fcG σ 4 ((5 : Int32) * (σ.1 3 2)))) 3 5 (fcG (fhI σ 3 8 (fcG σ 4 ((5 : Int32) * (σ.1 3 2)))) 4 (((5 : Int32) * (σ.1 3 2)) + (1 : Int32)))) 4 (((5 : Int32) * (σ.1 3 2)) + (2 : Int32)))) 4 (((5 : Int32) * (σ.1 3 2)) + (3 : Int32))))
      refine fhW.blk fhPF fhLL hΓ [(.putfield 90, 0), (.aload_n 0, 0), (.dup, 0), (.getfield 33, 0), (.iconst 1, 1), (.iadd, 0), (.putfield 33, 0)] (pc' := 126) (lv' := [(1, .int ((5 : Int32) * (σ.1 3 2))), (0, .ref 3)]) (st' := []) (σ' := (fhI (fhI (fhI (fhI (fhI (fhI σ 3 8 (fcG σ 4 ((5 : Int32) * (σ.1 3 2)))) 3 5 (fcG (fhI σ 3 8 (fcG σ 4 ((5 : Int32) * (σ.1 3 2)))) 4 (((5 : Int32) * (σ.1 3 2)) + (1 : Int32)))) 3 4 (fcG (fhI (fhI σ 3 8 (fcG σ 4 ((5 : Int32) * (σ.1 3 2)))) 3 5 (fcG (fhI σ 3 8 (fcG σ 4 ((5 : Int32) * (σ.1 3 2)))) 4 (((5 : Int32) * (σ.1 3 2)) + (1 : Int32)))) 4 (((5 : Int32) * (σ.1 3 2)) + (2 : Int32)))) 3 6 (fcG (fhI (fhI (fhI σ 3 8 (fcG σ 4 ((5 : Int32) * (σ.1 3 2)))) 3 5 (fcG (fhI σ 3 8 (fcG σ 4 ((5 : Int32) * (σ.1 3 2)))) 4 (((5 : Int32) * (σ.1 3 2)) + (1 : Int32)))) 3 4 (fcG (fhI (fhI σ 3 8 (fcG σ 4 ((5 : Int32) * (σ.1 3 2)))) 3 5 (fcG (fhI σ 3 8 (fcG σ 4 ((5 : Int32) * (σ.1 3 2)))) 4 (((5 : Int32) * (σ.1 3 2)) + (1 : Int32)))) 4 (((5 : Int32) * (σ.1 3 2)) + (2 : Int32)))) 4 (((5 : Int32) * (σ.1 3 2)) + (3 : Int32)))) 3 7 (fcG (fhI (fhI (fhI (fhI σ 3 8 (fcG σ 4 ((5 : Int32) * (σ.1 3 2)))) 3 5 (fcG (fhI σ 3 8 (fcG σ 4 ((5 : Int32) * (σ.1 3 2)))) 4 (((5 : Int32) * (σ.1 3 2)) + (1 : Int32)))) 3 4 (fcG (fhI (fhI σ 3 8 (fcG σ 4 ((5 : Int32) * (σ.1 3 2)))) 3 5 (fcG (fhI σ 3 8 (fcG σ 4 ((5 : Int32) * (σ.1 3 2)))) 4 (((5 : Int32) * (σ.1 3 2)) + (1 : Int32)))) 4 (((5 : Int32) * (σ.1 3 2)) + (2 : Int32)))) 3 6 (fcG (fhI (fhI (fhI σ 3 8 (fcG σ 4 ((5 : Int32) * (σ.1 3 2)))) 3 5 (fcG (fhI σ 3 8 (fcG σ 4 ((5 : Int32) * (σ.1 3 2)))) 4 (((5 : Int32) * (σ.1 3 2)) + (1 : Int32)))) 3 4 (fcG (fhI (fhI σ 3 8 (fcG σ 4 ((5 : Int32) * (σ.1 3 2)))) 3 5 (fcG (fhI σ 3 8 (fcG σ 4 ((5 : Int32) * (σ.1 3 2)))) 4 (((5 : Int32) * (σ.1 3 2)) + (1 : Int32)))) 4 (((5 : Int32) * (σ.1 3 2)) + (2 : Int32)))) 4 (((5 : Int32) * (σ.1 3 2)) + (3 : Int32)))) 4 (((5 : Int32) * (σ.1 3 2)) + (4 : Int32)))) 3 2 ((σ.1 3 2) + (1 : Int32)))) (by decide +kernel) rfl rfl rfl ?_
      subst h
      exact fhW.vret hΓ (by decide +kernel) hk
    · rw [if_neg hc] at h
      refine fhW.blk fhPF fhLL hΓ [(.aload_n 0, 0), (.iconst 0, 0), (.putfield 75, 0), (.aload_n 0, 0), (.aload_n 0, 0), (.getfield 20, 0), (.putfield 78, 0), (.aload_n 0, 0), (.aload_n 0, 0), (.getfield 20, 0), (.putfield 84, 0)] (pc' := 40) (lv' := [(0, .ref 3)]) (st' := []) (σ' := (fhI (fhI (fhI σ 3 4 (0 : Int32)) 3 8 (σ.1 3 3)) 3 5 (σ.1 3 3))) (by decide +kernel) rfl rfl rfl ?_
      subst h
      exact fhW.vret hΓ (by decide +kernel) hk
  · rw [if_neg hc] at h
    subst h
    exact fhW.vret hΓ (by decide +kernel) hk
set_option maxRecDepth 100000 in
theorem T_X8_advance {E : fhE} {d : Nat} (hE : fhEok fhYF E) (hd : 1 ≤ d)   (σ : fhM) : fhC fhYF E d miX8_advance [.ref 3] σ none (f_X8_advance σ) := by
  refine fhC.of (y := yX8_advance) (cc := cX8_advance) (nL := 2) (ret := none) 8 rfl (by decide +kernel) (Nat.le_of_ble_eq_true rfl) ?_
  intro Γ hΓ hR hD hEn
  subst hD; subst hEn
  exact L_X8_advance_E hE hΓ hd   σ _ rfl hR
set_option maxRecDepth 100000 in
set_option maxHeartbeats 4000000 in
theorem L_X8_open_97 {Γ : fhX} (hE : fhEok fhYF (fhEn Γ)) (hΓ : fhOk fhYF 8 cX8_open 6 none Γ) (hd : 8 ≤ fhD Γ)   (σ : fhM) (o : fhM) (h : f_X8_open_97 σ = some o) (hk : (fun o => fhRet Γ none o) o) : fhW fhYF Γ 97 [(0, .ref 3)] [] σ := by
  unfold f_X8_open_97 at h
  refine fhW.blk fhPF fhLL hΓ [(.aload_n 0, 0)] (pc' := 98) (lv' := [(0, .ref 3)]) (st' := [.ref 3]) (σ' := σ) (by decide +kernel) rfl rfl rfl ?_
  refine fhW.callv hΓ mvX8_advance ml_8_44 (t := 3) (ci := 8) (av := []) (rest := []) (r := none) (σ' := (f_X8_advance σ)) (T_X8_advance (E := fhEn Γ) (d := fhD Γ - 1) hE (by omega) σ) (by omega) (by decide +kernel) rfl rfl rfl (Nat.le_of_ble_eq_true rfl) rfl ?_
  show fhW fhYF Γ 101 [(0, .ref 3)] [] (f_X8_advance σ)
  obtain ⟨q1, e1, h⟩ := fhlet_elim h
  rw [← e1]
  have e9 := Option.some.inj h
  subst e9
  exact fhW.vret hΓ (by decide +kernel) hk
set_option maxRecDepth 100000 in
set_option maxHeartbeats 4000000 in
theorem L_X8_open_90 {Γ : fhX} (hE : fhEok fhYF (fhEn Γ)) (hΓ : fhOk fhYF 8 cX8_open 6 none Γ) (hd : 8 ≤ fhD Γ) (v1 : Nat) (v4 : Int32) (s0 : Int32) (hv1 : fhiC v1 = true) (σ : fhM) (o : (Int32 × Int32 × fhM) ⊕ (fhM)) (h : f_X8_open_90 v1 v4 s0 σ = some o) (hk : (fhK (fun x => fhW fhYF Γ 30 [(0, .ref 3), (1, .ref v1), (3, .int x.1), (4, .int x.2.1)] [] x.2.2) (fun o => fhRet Γ none o)) o) : fhW fhYF Γ 90 [(0, .ref 3), (1, .ref v1), (4, .int v4)] [.int s0] σ := by
  unfold f_X8_open_90 at h
  refine fhW.blk fhPF fhLL hΓ [(.istore_n 3, 0), (.iinc 4 1, 1)] (pc' := 94) (lv' := [(4, .int (v4 + (1 : Int32))), (3, .int s0), (0, .ref 3), (1, .ref v1)]) (st' := []) (σ' := σ) (by decide +kernel) rfl rfl rfl ?_
  refine fhW.goto hΓ (off := (-64)) (tgt := 30) (by decide +kernel) ?_
  refine fhW.sub (lv' := [(0, .ref 3), (1, .ref v1), (3, .int s0), (4, .int (v4 + (1 : Int32)))]) [2, 3, 1, 0] rfl ?_
  have e9 := Option.some.inj h
  subst e9
  exact hk
set_option maxRecDepth 100000 in
set_option maxHeartbeats 4000000 in
theorem L_X8_open_71 {Γ : fhX} (hE : fhEok fhYF (fhEn Γ)) (hΓ : fhOk fhYF 8 cX8_open 6 none Γ) (hd : 8 ≤ fhD Γ) (v1 : Nat) (v3 : Int32) (v4 : Int32) (s0 : Int32) (hv1 : fhiC v1 = true) (σ : fhM) (o : (Int32 × Int32 × fhM) ⊕ (fhM)) (h : f_X8_open_71 v1 v3 v4 s0 σ = some o) (hk : (fhK (fun x => fhW fhYF Γ 30 [(0, .ref 3), (1, .ref v1), (3, .int x.1), (4, .int x.2.1)] [] x.2.2) (fun o => fhRet Γ none o)) o) : fhW fhYF Γ 71 [(0, .ref 3), (1, .ref v1), (3, .int v3), (4, .int v4)] [.int s0] σ := by
  unfold f_X8_open_71 at h
  refine fhW.blk fhPF fhLL hΓ [(.istore 5, 0), (.iload 5, 0)] (pc' := 75) (lv' := [(5, .int s0), (0, .ref 3), (1, .ref v1), (3, .int v3), (4, .int v4)]) (st' := [.int s0]) (σ' := σ) (by decide +kernel) rfl rfl rfl ?_
  refine fhW.z_eq hΓ (tgt := 84) (show fhbk _ _ (.ifCond .eq (9)) _ = true by decide +kernel) (fun hc => ?_) (fun hc => ?_)
  · rw [if_pos hc] at h
    refine fhW.blk fhPF fhLL hΓ [(.aload_n 0, 0), (.aload_n 1, 0), (.iload_n 3, 0)] (pc' := 87) (lv' := [(5, .int s0), (0, .ref 3), (1, .ref v1), (3, .int v3), (4, .int v4)]) (st' := [.int v3, .ref v1, .ref 3]) (σ' := σ) (by decide +kernel) rfl rfl rfl ?_
    obtain ⟨q2, hb1, h⟩ := Option.bind_eq_some_iff.mp h
    refine fhW.callv hΓ mvX8_cutPiece ml_8_40 (t := 3) (ci := 8) (av := [.ref v1, .int v3]) (rest := []) (r := (some (.int q2.1))) (σ' := q2.2) (T_X8_cutPiece (E := fhEn Γ) (d := fhD Γ - 1) hE (by omega) v1 v3 hv1 σ hb1) (by omega) (by decide +kernel) rfl rfl rfl (Nat.le_of_ble_eq_true rfl) rfl ?_
    show fhW fhYF Γ 90 [(5, .int s0), (0, .ref 3), (1, .ref v1), (3, .int v3), (4, .int v4)] [.int q2.1] q2.2
    refine fhW.sub (lv' := [(0, .ref 3), (1, .ref v1), (4, .int v4)]) [1, 2, 4] rfl ?_
    exact L_X8_open_90 hE hΓ hd v1 v4 q2.1 hv1 q2.2 _ h hk
  · rw [if_neg hc] at h
    refine fhW.blk fhPF fhLL hΓ [(.iload_n 3, 0), (.iconst 1, 1), (.iadd, 0)] (pc' := 81) (lv' := [(5, .int s0), (0, .ref 3), (1, .ref v1), (3, .int v3), (4, .int v4)]) (st' := [.int (v3 + (1 : Int32))]) (σ' := σ) (by decide +kernel) rfl rfl rfl ?_
    refine fhW.goto hΓ (off := 9) (tgt := 90) (by decide +kernel) ?_
    refine fhW.sub (lv' := [(0, .ref 3), (1, .ref v1), (4, .int v4)]) [1, 2, 4] rfl ?_
    exact L_X8_open_90 hE hΓ hd v1 v4 (v3 + (1 : Int32)) hv1 σ _ h hk
set_option maxRecDepth 100000 in
set_option maxHeartbeats 4000000 in
theorem L_X8_open_66 {Γ : fhX} (hE : fhEok fhYF (fhEn Γ)) (hΓ : fhOk fhYF 8 cX8_open 6 none Γ) (hd : 8 ≤ fhD Γ) (v1 : Nat) (v3 : Int32) (v4 : Int32) (hv1 : fhiC v1 = true) (σ : fhM) (o : (Int32 × Int32 × fhM) ⊕ (fhM)) (h : f_X8_open_66 v1 v3 v4 σ = some o) (hk : (fhK (fun x => fhW fhYF Γ 30 [(0, .ref 3), (1, .ref v1), (3, .int x.1), (4, .int x.2.1)] [] x.2.2) (fun o => fhRet Γ none o)) o) : fhW fhYF Γ 66 [(0, .ref 3), (1, .ref v1), (3, .int v3), (4, .int v4)] [] σ := by
  unfold f_X8_open_66 at h
  refine fhW.blk fhPF fhLL hΓ [(.iconst 1, 1)] (pc' := 67) (lv' := [(0, .ref 3), (1, .ref v1), (3, .int v3), (4, .int v4)]) (st' := [.int (1 : Int32)]) (σ' := σ) (by decide +kernel) rfl rfl rfl ?_
  refine fhW.goto hΓ (off := 4) (tgt := 71) (by decide +kernel) ?_
  refine fhW.sub (lv' := [(0, .ref 3), (1, .ref v1), (3, .int v3), (4, .int v4)]) [0, 1, 2, 3] rfl ?_
  exact L_X8_open_71 hE hΓ hd v1 v3 v4 (1 : Int32) hv1 σ _ h hk
set_option maxRecDepth 100000 in
set_option maxHeartbeats 4000000 in
theorem L_X8_open_30 {Γ : fhX} (hE : fhEok fhYF (fhEn Γ)) (hΓ : fhOk fhYF 8 cX8_open 6 none Γ) (hd : 8 ≤ fhD Γ) (v1 : Nat) (v3 : Int32) (v4 : Int32) (hv1 : fhiC v1 = true) (σ : fhM) (o : (Int32 × Int32 × fhM) ⊕ (fhM)) (h : f_X8_open_30 v1 v3 v4 σ = some o) (hk : (fhK (fun x => fhW fhYF Γ 30 [(0, .ref 3), (1, .ref v1), (3, .int x.1), (4, .int x.2.1)] [] x.2.2) (fun o => fhRet Γ none o)) o) : fhW fhYF Γ 30 [(0, .ref 3), (1, .ref v1), (3, .int v3), (4, .int v4)] [] σ := by
  unfold f_X8_open_30 at h
  refine fhW.blk fhPF fhLL hΓ [(.iload 4, 0), (.sipush 1600, 1600)] (pc' := 35) (lv' := [(0, .ref 3), (1, .ref v1), (3, .int v3), (4, .int v4)]) (st' := [.int (1600 : Int32), .int v4]) (σ' := σ) (by decide +kernel) rfl rfl rfl ?_
  refine fhW.i_ge hΓ (tgt := 97) (show fhbk _ _ (.if_icmp .ge (62)) _ = true by decide +kernel) (fun hc => ?_) (fun hc => ?_)
  · rw [if_pos hc] at h
    refine fhW.sub (lv' := [(0, .ref 3)]) [0] rfl ?_
    obtain ⟨z1, hz, e2⟩ := Option.map_eq_some_iff.mp h
    clear h
    subst e2
    have h := hz
    have hk : (fun o => fhRet Γ none o) z1 := hk
    exact L_X8_open_97 hE hΓ hd σ _ h hk
  · rw [if_neg hc] at h
    refine fhW.blk fhPF fhLL hΓ [(.iload_n 3, 0), (.aload_n 0, 0), (.getfield 20, 0)] (pc' := 43) (lv' := [(0, .ref 3), (1, .ref v1), (3, .int v3), (4, .int v4)]) (st' := [.int (σ.1 3 3), .int v3]) (σ' := σ) (by decide +kernel) rfl rfl rfl ?_
    refine fhW.i_ge hΓ (tgt := 97) (show fhbk _ _ (.if_icmp .ge (54)) _ = true by decide +kernel) (fun hc => ?_) (fun hc => ?_)
    · rw [if_pos hc] at h
      refine fhW.sub (lv' := [(0, .ref 3)]) [0] rfl ?_
      obtain ⟨z2, hz, e3⟩ := Option.map_eq_some_iff.mp h
      clear h
      subst e3
      have h := hz
      have hk : (fun o => fhRet Γ none o) z2 := hk
      exact L_X8_open_97 hE hΓ hd σ _ h hk
    · rw [if_neg hc] at h
      refine fhW.blk fhPF fhLL hΓ [(.aload_n 1, 0), (.iload_n 3, 0)] (pc' := 48) (lv' := [(0, .ref 3), (1, .ref v1), (3, .int v3), (4, .int v4)]) (st' := [.int v3, .ref v1]) (σ' := σ) (by decide +kernel) rfl rfl rfl ?_
      refine fhW.callv hΓ mvX2_get ml_8_36 (t := v1) (ci := 2) (av := [.int v3]) (rest := []) (r := (some (.int (fcG σ v1 v3)))) (σ' := σ) (T_X2_get (E := fhEn Γ) (d := fhD Γ - 1) hE (by omega) v1 v3 hv1 σ) (by omega) (by decide +kernel) rfl (fhiC_g hv1) rfl (Nat.le_of_ble_eq_true rfl) rfl ?_
      show fhW fhYF Γ 51 [(0, .ref 3), (1, .ref v1), (3, .int v3), (4, .int v4)] [.int (fcG σ v1 v3)] σ
      refine fhW.blk fhPF fhLL hΓ [(.bipush 10, 10)] (pc' := 53) (lv' := [(0, .ref 3), (1, .ref v1), (3, .int v3), (4, .int v4)]) (st' := [.int (10 : Int32), .int (fcG σ v1 v3)]) (σ' := σ) (by decide +kernel) rfl rfl rfl ?_
      refine fhW.i_eq hΓ (tgt := 66) (show fhbk _ _ (.if_icmp .eq (13)) _ = true by decide +kernel) (fun hc => ?_) (fun hc => ?_)
      · rw [if_pos hc] at h
        refine fhW.sub (lv' := [(0, .ref 3), (1, .ref v1), (3, .int v3), (4, .int v4)]) [0, 1, 2, 3] rfl ?_
        exact L_X8_open_66 hE hΓ hd v1 v3 v4 hv1 σ _ h hk
      · rw [if_neg hc] at h
        refine fhW.blk fhPF fhLL hΓ [(.aload_n 1, 0), (.iload_n 3, 0)] (pc' := 58) (lv' := [(0, .ref 3), (1, .ref v1), (3, .int v3), (4, .int v4)]) (st' := [.int v3, .ref v1]) (σ' := σ) (by decide +kernel) rfl rfl rfl ?_
        refine fhW.callv hΓ mvX2_get ml_8_36 (t := v1) (ci := 2) (av := [.int v3]) (rest := []) (r := (some (.int (fcG σ v1 v3)))) (σ' := σ) (T_X2_get (E := fhEn Γ) (d := fhD Γ - 1) hE (by omega) v1 v3 hv1 σ) (by omega) (by decide +kernel) rfl (fhiC_g hv1) rfl (Nat.le_of_ble_eq_true rfl) rfl ?_
        show fhW fhYF Γ 61 [(0, .ref 3), (1, .ref v1), (3, .int v3), (4, .int v4)] [.int (fcG σ v1 v3)] σ
        refine fhW.blk fhPF fhLL hΓ [(.bipush 32, 32)] (pc' := 63) (lv' := [(0, .ref 3), (1, .ref v1), (3, .int v3), (4, .int v4)]) (st' := [.int (32 : Int32), .int (fcG σ v1 v3)]) (σ' := σ) (by decide +kernel) rfl rfl rfl ?_
        refine fhW.i_ne hΓ (tgt := 70) (show fhbk _ _ (.if_icmp .ne (7)) _ = true by decide +kernel) (fun hc => ?_) (fun hc => ?_)
        · rw [if_neg hc] at h
          refine fhW.blk fhPF fhLL hΓ [(.iconst 0, 0)] (pc' := 71) (lv' := [(0, .ref 3), (1, .ref v1), (3, .int v3), (4, .int v4)]) (st' := [.int (0 : Int32)]) (σ' := σ) (by decide +kernel) rfl rfl rfl ?_
          refine fhW.sub (lv' := [(0, .ref 3), (1, .ref v1), (3, .int v3), (4, .int v4)]) [0, 1, 2, 3] rfl ?_
          exact L_X8_open_71 hE hΓ hd v1 v3 v4 (0 : Int32) hv1 σ _ h hk
        · rw [if_pos hc] at h
          refine fhW.sub (lv' := [(0, .ref 3), (1, .ref v1), (3, .int v3), (4, .int v4)]) [0, 1, 2, 3] rfl ?_
          exact L_X8_open_66 hE hΓ hd v1 v3 v4 hv1 σ _ h hk
set_option maxRecDepth 100000 in
set_option maxHeartbeats 4000000 in
theorem L_X8_open_E {Γ : fhX} (hE : fhEok fhYF (fhEn Γ)) (hΓ : fhOk fhYF 8 cX8_open 6 none Γ) (hd : 8 ≤ fhD Γ) (v1 : Nat) (v2 : Int32) (hv1 : fhiC v1 = true) (σ : fhM) (o : fhM) (h : f_X8_open v1 v2 σ = some o) (hk : (fun o => fhRet Γ none o) o) : fhW fhYF Γ 0 [(0, .ref 3), (1, .ref v1), (2, .int v2)] [] σ := by
  unfold f_X8_open at h
  refine fhW.blk fhPF fhLL hΓ [(.aload_n 0, 0), (.iload_n 2, 0), (.putfield 20, 0), (.aload_n 0, 0), (.iconst 0, 0), (.putfield 24, 0), (.aload_n 0, 0), (.iconst (-1), -1), (.putfield 27, 0), (.aload_n 0, 0), (.iconst 0, 0), (.putfield 30, 0), (.aload_n 0, 0), (.iconst 0, 0), (.putfield 33, 0), (.iconst 0, 0), (.istore_n 3, 0), (.iconst 0, 0), (.istore 4, 0)] (pc' := 30) (lv' := [(4, .int (0 : Int32)), (3, .int (0 : Int32)), (0, .ref 3), (1, .ref v1), (2, .int v2)]) (st' := []) (σ' := (fhI (fhI (fhI (fhI (fhI σ 3 3 v2) 3 9 (0 : Int32)) 3 10 (-1 : Int32)) 3 1 (0 : Int32)) 3 2 (0 : Int32))) (by decide +kernel) rfl rfl rfl ?_
  refine fhW.sub (lv' := [(0, .ref 3), (1, .ref v1), (3, .int (0 : Int32)), (4, .int (0 : Int32))]) [2, 3, 1, 0] rfl ?_
  exact fhlp_ok (W := (fun x => fhW fhYF Γ 30 [(0, .ref 3), (1, .ref v1), (3, .int x.1), (4, .int x.2.1)] [] x.2.2)) (B := (fun o => fhRet Γ none o)) (fun x o h hk => L_X8_open_30 hE hΓ hd v1 x.1 x.2.1 hv1 x.2.2 o h hk) ((0 : Int32), (0 : Int32), (fhI (fhI (fhI (fhI (fhI σ 3 3 v2) 3 9 (0 : Int32)) 3 10 (-1 : Int32)) 3 1 (0 : Int32)) 3 2 (0 : Int32))) _ h hk
set_option maxRecDepth 100000 in
theorem T_X8_open {E : fhE} {d : Nat} (hE : fhEok fhYF E) (hd : 8 ≤ d) (v1 : Nat) (v2 : Int32) (hv1 : fhiC v1 = true) (σ : fhM) {o : fhM} (h : f_X8_open v1 v2 σ = some o) : fhC fhYF E d miX8_open [.ref 3, .ref v1, .int v2] σ none o := by
  refine fhC.of (y := yX8_open) (cc := cX8_open) (nL := 6) (ret := none) 8 rfl (by decide +kernel) (Nat.le_of_ble_eq_true rfl) ?_
  intro Γ hΓ hR hD hEn
  subst hD; subst hEn
  exact L_X8_open_E hE hΓ hd v1 v2 hv1 σ _ h hR
set_option maxRecDepth 100000 in
set_option maxHeartbeats 4000000 in
theorem L_X8_isEnd_E {Γ : fhX} (hE : fhEok fhYF (fhEn Γ)) (hΓ : fhOk fhYF 8 cX8_isEnd 1 (some .boolean) Γ) (hd : 0 ≤ fhD Γ)   (σ : fhM) (o : Bool) (h : f_X8_isEnd σ = o) (hk : (fun o => fhRet Γ (some (.int (fhb o))) σ) o) : fhW fhYF Γ 0 [(0, .ref 3)] [] σ := by
  unfold f_X8_isEnd at h
  refine fhW.blk fhPF fhLL hΓ [(.aload_n 0, 0), (.getfield 75, 0)] (pc' := 4) (lv' := [(0, .ref 3)]) (st' := [.int (σ.1 3 4)]) (σ' := σ) (by decide +kernel) rfl rfl rfl ?_
  refine fhW.z_ne hΓ (tgt := 11) (show fhbk _ _ (.ifCond .ne (7)) _ = true by decide +kernel) (fun hc => ?_) (fun hc => ?_)
  · rw [if_neg hc] at h
    refine fhW.blk fhPF fhLL hΓ [(.iconst 0, 0)] (pc' := 12) (lv' := [(0, .ref 3)]) (st' := [.int (0 : Int32)]) (σ' := σ) (by decide +kernel) rfl rfl rfl ?_
    subst h
    exact fhW.zret (v := false) hΓ (by decide +kernel) hk
  · rw [if_pos hc] at h
    refine fhW.blk fhPF fhLL hΓ [(.iconst 1, 1)] (pc' := 8) (lv' := [(0, .ref 3)]) (st' := [.int (1 : Int32)]) (σ' := σ) (by decide +kernel) rfl rfl rfl ?_
    refine fhW.goto hΓ (off := 4) (tgt := 12) (by decide +kernel) ?_
    subst h
    exact fhW.zret (v := true) hΓ (by decide +kernel) hk
set_option maxRecDepth 100000 in
theorem T_X8_isEnd {E : fhE} {d : Nat} (hE : fhEok fhYF E) (hd : 0 ≤ d)   (σ : fhM) : fhC fhYF E d miX8_isEnd [.ref 3] σ (some (.int (fhb (f_X8_isEnd σ)))) σ := by
  refine fhC.of (y := yX8_isEnd) (cc := cX8_isEnd) (nL := 1) (ret := (some .boolean)) 8 rfl (by decide +kernel) (Nat.le_of_ble_eq_true rfl) ?_
  intro Γ hΓ hR hD hEn
  subst hD; subst hEn
  exact L_X8_isEnd_E hE hΓ hd   σ _ rfl hR
set_option maxRecDepth 100000 in
set_option maxHeartbeats 4000000 in
theorem L_X8_wordHere_E {Γ : fhX} (hE : fhEok fhYF (fhEn Γ)) (hΓ : fhOk fhYF 8 cX8_wordHere 1 (some .int) Γ) (hd : 0 ≤ fhD Γ)   (σ : fhM) (o : Int32) (h : f_X8_wordHere σ = o) (hk : (fun o => fhRet Γ (some (.int o)) σ) o) : fhW fhYF Γ 0 [(0, .ref 3)] [] σ := by
  unfold f_X8_wordHere at h
  refine fhW.blk fhPF fhLL hΓ [(.aload_n 0, 0), (.getfield 75, 0), (.iconst 1, 1)] (pc' := 5) (lv' := [(0, .ref 3)]) (st' := [.int (1 : Int32), .int (σ.1 3 4)]) (σ' := σ) (by decide +kernel) rfl rfl rfl ?_
  refine fhW.i_ne hΓ (tgt := 15) (show fhbk _ _ (.if_icmp .ne (10)) _ = true by decide +kernel) (fun hc => ?_) (fun hc => ?_)
  · rw [if_neg hc] at h
    refine fhW.blk fhPF fhLL hΓ [(.bipush 99, 99)] (pc' := 17) (lv' := [(0, .ref 3)]) (st' := [.int (99 : Int32)]) (σ' := σ) (by decide +kernel) rfl rfl rfl ?_
    subst h
    exact fhW.iret hΓ (by decide +kernel) hk
  · rw [if_pos hc] at h
    refine fhW.blk fhPF fhLL hΓ [(.aload_n 0, 0), (.getfield 90, 0)] (pc' := 12) (lv' := [(0, .ref 3)]) (st' := [.int (σ.1 3 7)]) (σ' := σ) (by decide +kernel) rfl rfl rfl ?_
    refine fhW.goto hΓ (off := 5) (tgt := 17) (by decide +kernel) ?_
    subst h
    exact fhW.iret hΓ (by decide +kernel) hk
set_option maxRecDepth 100000 in
theorem T_X8_wordHere {E : fhE} {d : Nat} (hE : fhEok fhYF E) (hd : 0 ≤ d)   (σ : fhM) : fhC fhYF E d miX8_wordHere [.ref 3] σ (some (.int (f_X8_wordHere σ))) σ := by
  refine fhC.of (y := yX8_wordHere) (cc := cX8_wordHere) (nL := 1) (ret := (some .int)) 8 rfl (by decide +kernel) (Nat.le_of_ble_eq_true rfl) ?_
  intro Γ hΓ hR hD hEn
  subst hD; subst hEn
  exact L_X8_wordHere_E hE hΓ hd   σ _ rfl hR
set_option maxRecDepth 100000 in
set_option maxHeartbeats 4000000 in
theorem L_X8_fail_E {Γ : fhX} (hE : fhEok fhYF (fhEn Γ)) (hΓ : fhOk fhYF 8 cX8_fail 3 none Γ) (hd : 0 ≤ fhD Γ) (v1 : Int32) (v2 : Int32)  (σ : fhM) (o : fhM) (h : f_X8_fail v1 v2 σ = o) (hk : (fun o => fhRet Γ none o) o) : fhW fhYF Γ 0 [(0, .ref 3), (1, .int v1), (2, .int v2)] [] σ := by
  unfold f_X8_fail at h
  refine fhW.blk fhPF fhLL hΓ [(.aload_n 0, 0), (.getfield 24, 0)] (pc' := 4) (lv' := [(0, .ref 3), (1, .int v1), (2, .int v2)]) (st' := [.int (σ.1 3 9)]) (σ' := σ) (by decide +kernel) rfl rfl rfl ?_
  refine fhW.z_ne hΓ (tgt := 22) (show fhbk _ _ (.ifCond .ne (18)) _ = true by decide +kernel) (fun hc => ?_) (fun hc => ?_)
  · rw [if_neg hc] at h
    subst h
    exact fhW.vret hΓ (by decide +kernel) hk
  · rw [if_pos hc] at h
    refine fhW.blk fhPF fhLL hΓ [(.aload_n 0, 0), (.iload_n 1, 0), (.putfield 24, 0), (.aload_n 0, 0), (.iload_n 2, 0), (.putfield 27, 0), (.aload_n 0, 0), (.iconst 4, 4), (.putfield 75, 0)] (pc' := 22) (lv' := [(0, .ref 3), (1, .int v1), (2, .int v2)]) (st' := []) (σ' := (fhI (fhI (fhI σ 3 9 v1) 3 10 v2) 3 4 (4 : Int32))) (by decide +kernel) rfl rfl rfl ?_
    subst h
    exact fhW.vret hΓ (by decide +kernel) hk
set_option maxRecDepth 100000 in
theorem T_X8_fail {E : fhE} {d : Nat} (hE : fhEok fhYF E) (hd : 0 ≤ d) (v1 : Int32) (v2 : Int32)  (σ : fhM) : fhC fhYF E d miX8_fail [.ref 3, .int v1, .int v2] σ none (f_X8_fail v1 v2 σ) := by
  refine fhC.of (y := yX8_fail) (cc := cX8_fail) (nL := 3) (ret := none) 8 rfl (by decide +kernel) (Nat.le_of_ble_eq_true rfl) ?_
  intro Γ hΓ hR hD hEn
  subst hD; subst hEn
  exact L_X8_fail_E hE hΓ hd v1 v2  σ _ rfl hR
set_option maxRecDepth 100000 in
set_option maxHeartbeats 4000000 in
theorem L_X8_failHere_E {Γ : fhX} (hE : fhEok fhYF (fhEn Γ)) (hΓ : fhOk fhYF 8 cX8_failHere 1 none Γ) (hd : 1 ≤ fhD Γ)   (σ : fhM) (o : fhM) (h : f_X8_failHere σ = o) (hk : (fun o => fhRet Γ none o) o) : fhW fhYF Γ 0 [(0, .ref 3)] [] σ := by
  unfold f_X8_failHere at h
  refine fhW.blk fhPF fhLL hΓ [(.aload_n 0, 0), (.iconst 1, 1), (.aload_n 0, 0), (.getfield 78, 0)] (pc' := 6) (lv' := [(0, .ref 3)]) (st' := [.int (σ.1 3 8), .int (1 : Int32), .ref 3]) (σ' := σ) (by decide +kernel) rfl rfl rfl ?_
  refine fhW.callv hΓ mvX8_fail ml_8_81 (t := 3) (ci := 8) (av := [.int (1 : Int32), .int (σ.1 3 8)]) (rest := []) (r := none) (σ' := (f_X8_fail (1 : Int32) (σ.1 3 8) σ)) (T_X8_fail (E := fhEn Γ) (d := fhD Γ - 1) hE (by omega) (1 : Int32) (σ.1 3 8) σ) (by omega) (by decide +kernel) rfl rfl rfl (Nat.le_of_ble_eq_true rfl) rfl ?_
  show fhW fhYF Γ 9 [(0, .ref 3)] [] (f_X8_fail (1 : Int32) (σ.1 3 8) σ)
  obtain ⟨q1, e1, h⟩ := fhlet_elim h
  rw [← e1]
  subst h
  exact fhW.vret hΓ (by decide +kernel) hk
set_option maxRecDepth 100000 in
theorem T_X8_failHere {E : fhE} {d : Nat} (hE : fhEok fhYF E) (hd : 1 ≤ d)   (σ : fhM) : fhC fhYF E d miX8_failHere [.ref 3] σ none (f_X8_failHere σ) := by
  refine fhC.of (y := yX8_failHere) (cc := cX8_failHere) (nL := 1) (ret := none) 8 rfl (by decide +kernel) (Nat.le_of_ble_eq_true rfl) ?_
  intro Γ hΓ hR hD hEn
  subst hD; subst hEn
  exact L_X8_failHere_E hE hΓ hd   σ _ rfl hR
set_option maxRecDepth 100000 in
set_option maxHeartbeats 4000000 in
theorem L_X7_statementWord_146 {Γ : fhX} (hE : fhEok fhYF (fhEn Γ)) (hΓ : fhOk fhYF 7 cX7_statementWord 5 (some .int) Γ) (hd : 2 ≤ fhD Γ) (v0 : Nat) (v1 : Int32) (hv0 : fhiP v0 = true) (σ : fhM) (o : Int32 × fhM) (h : f_X7_statementWord_146 v0 v1 σ = o) (hk : (fun o => fhRet Γ (some (.int o.1)) o.2) o) : fhW fhYF Γ 146 [(0, .ref v0), (1, .int v1)] [] σ := by
  unfold f_X7_statementWord_146 at h
  refine fhW.blk fhPF fhLL hΓ [(.aload_n 0, 0), (.getfield 36, 0)] (pc' := 150) (lv' := [(0, .ref v0), (1, .int v1)]) (st' := [.ref 3]) (σ' := σ) (by decide +kernel) rfl rfl (by rcases fhiP_or hv0 with rfl | rfl <;> rfl) ?_
  refine fhW.callv hΓ mvX8_failHere ml_7_147 (t := 3) (ci := 8) (av := []) (rest := []) (r := none) (σ' := (f_X8_failHere σ)) (T_X8_failHere (E := fhEn Γ) (d := fhD Γ - 1) hE (by omega) σ) (by omega) (by decide +kernel) rfl rfl rfl (Nat.le_of_ble_eq_true rfl) rfl ?_
  show fhW fhYF Γ 153 [(0, .ref v0), (1, .int v1)] [] (f_X8_failHere σ)
  obtain ⟨q2, e1, h⟩ := fhlet_elim h
  rw [← e1]
  refine fhW.blk fhPF fhLL hΓ [(.iload_n 1, 0)] (pc' := 154) (lv' := [(0, .ref v0), (1, .int v1)]) (st' := [.int v1]) (σ' := q2) (by decide +kernel) rfl rfl rfl ?_
  subst h
  exact fhW.iret hΓ (by decide +kernel) hk
set_option maxRecDepth 100000 in
set_option maxHeartbeats 4000000 in
theorem L_X7_statementWord_125 {Γ : fhX} (hE : fhEok fhYF (fhEn Γ)) (hΓ : fhOk fhYF 7 cX7_statementWord 5 (some .int) Γ) (hd : 2 ≤ fhD Γ) (v0 : Nat) (v1 : Int32) (v3 : Int32) (s0 : Int32) (hv0 : fhiP v0 = true) (σ : fhM) (o : Int32 × fhM) (h : f_X7_statementWord_125 v0 v1 v3 s0 σ = o) (hk : (fun o => fhRet Γ (some (.int o.1)) o.2) o) : fhW fhYF Γ 125 [(0, .ref v0), (1, .int v1), (3, .int v3)] [.int s0] σ := by
  unfold f_X7_statementWord_125 at h
  refine fhW.blk fhPF fhLL hΓ [(.istore 4, 0), (.aload_n 0, 0), (.getfield 64, 0)] (pc' := 131) (lv' := [(4, .int s0), (0, .ref v0), (1, .int v1), (3, .int v3)]) (st' := [.int (σ.1 v0 8)]) (σ' := σ) (by decide +kernel) rfl rfl (by rcases fhiP_or hv0 with rfl | rfl <;> rfl) ?_
  refine fhW.z_ne hΓ (tgt := 141) (show fhbk _ _ (.ifCond .ne (10)) _ = true by decide +kernel) (fun hc => ?_) (fun hc => ?_)
  · rw [if_neg hc] at h
    refine fhW.blk fhPF fhLL hΓ [(.iload 4, 0)] (pc' := 143) (lv' := [(4, .int s0), (0, .ref v0), (1, .int v1), (3, .int v3)]) (st' := [.int s0]) (σ' := σ) (by decide +kernel) rfl rfl rfl ?_
    refine fhW.z_ne hΓ (tgt := 153) (show fhbk _ _ (.ifCond .ne (10)) _ = true by decide +kernel) (fun hc => ?_) (fun hc => ?_)
    · rw [if_neg hc] at h
      refine fhW.blk fhPF fhLL hΓ [(.iload_n 1, 0)] (pc' := 154) (lv' := [(4, .int s0), (0, .ref v0), (1, .int v1), (3, .int v3)]) (st' := [.int v1]) (σ' := σ) (by decide +kernel) rfl rfl rfl ?_
      subst h
      exact fhW.iret hΓ (by decide +kernel) hk
    · rw [if_pos hc] at h
      refine fhW.sub (lv' := [(0, .ref v0), (1, .int v1)]) [1, 2] rfl ?_
      exact L_X7_statementWord_146 hE hΓ hd v0 v1 hv0 σ _ h hk
  · rw [if_pos hc] at h
    refine fhW.blk fhPF fhLL hΓ [(.iload_n 3, 0)] (pc' := 135) (lv' := [(4, .int s0), (0, .ref v0), (1, .int v1), (3, .int v3)]) (st' := [.int v3]) (σ' := σ) (by decide +kernel) rfl rfl rfl ?_
    refine fhW.z_ne hΓ (tgt := 153) (show fhbk _ _ (.ifCond .ne (18)) _ = true by decide +kernel) (fun hc => ?_) (fun hc => ?_)
    · rw [if_neg hc] at h
      refine fhW.blk fhPF fhLL hΓ [(.iload_n 1, 0)] (pc' := 154) (lv' := [(4, .int s0), (0, .ref v0), (1, .int v1), (3, .int v3)]) (st' := [.int v1]) (σ' := σ) (by decide +kernel) rfl rfl rfl ?_
      subst h
      exact fhW.iret hΓ (by decide +kernel) hk
    · rw [if_pos hc] at h
      refine fhW.goto hΓ (off := 8) (tgt := 146) (by decide +kernel) ?_
      refine fhW.sub (lv' := [(0, .ref v0), (1, .int v1)]) [1, 2] rfl ?_
      exact L_X7_statementWord_146 hE hΓ hd v0 v1 hv0 σ _ h hk
set_option maxRecDepth 100000 in
set_option maxHeartbeats 4000000 in
theorem L_X7_statementWord_120 {Γ : fhX} (hE : fhEok fhYF (fhEn Γ)) (hΓ : fhOk fhYF 7 cX7_statementWord 5 (some .int) Γ) (hd : 2 ≤ fhD Γ) (v0 : Nat) (v1 : Int32) (v3 : Int32) (hv0 : fhiP v0 = true) (σ : fhM) (o : Int32 × fhM) (h : f_X7_statementWord_120 v0 v1 v3 σ = o) (hk : (fun o => fhRet Γ (some (.int o.1)) o.2) o) : fhW fhYF Γ 120 [(0, .ref v0), (1, .int v1), (3, .int v3)] [] σ := by
  unfold f_X7_statementWord_120 at h
  refine fhW.blk fhPF fhLL hΓ [(.iconst 1, 1)] (pc' := 121) (lv' := [(0, .ref v0), (1, .int v1), (3, .int v3)]) (st' := [.int (1 : Int32)]) (σ' := σ) (by decide +kernel) rfl rfl rfl ?_
  refine fhW.goto hΓ (off := 4) (tgt := 125) (by decide +kernel) ?_
  refine fhW.sub (lv' := [(0, .ref v0), (1, .int v1), (3, .int v3)]) [0, 1, 2] rfl ?_
  exact L_X7_statementWord_125 hE hΓ hd v0 v1 v3 (1 : Int32) hv0 σ _ h hk
set_option maxRecDepth 100000 in
set_option maxHeartbeats 4000000 in
theorem L_X7_statementWord_92 {Γ : fhX} (hE : fhEok fhYF (fhEn Γ)) (hΓ : fhOk fhYF 7 cX7_statementWord 5 (some .int) Γ) (hd : 2 ≤ fhD Γ) (v0 : Nat) (v1 : Int32) (s0 : Int32) (hv0 : fhiP v0 = true) (σ : fhM) (o : Int32 × fhM) (h : f_X7_statementWord_92 v0 v1 s0 σ = o) (hk : (fun o => fhRet Γ (some (.int o.1)) o.2) o) : fhW fhYF Γ 92 [(0, .ref v0), (1, .int v1)] [.int s0] σ := by
  unfold f_X7_statementWord_92 at h
  refine fhW.blk fhPF fhLL hΓ [(.istore_n 3, 0), (.iload_n 1, 0), (.iconst 1, 1)] (pc' := 95) (lv' := [(3, .int s0), (0, .ref v0), (1, .int v1)]) (st' := [.int (1 : Int32), .int v1]) (σ' := σ) (by decide +kernel) rfl rfl rfl ?_
  refine fhW.i_eq hΓ (tgt := 120) (show fhbk _ _ (.if_icmp .eq (25)) _ = true by decide +kernel) (fun hc => ?_) (fun hc => ?_)
  · rw [if_pos hc] at h
    refine fhW.sub (lv' := [(0, .ref v0), (1, .int v1), (3, .int s0)]) [1, 2, 0] rfl ?_
    exact L_X7_statementWord_120 hE hΓ hd v0 v1 s0 hv0 σ _ h hk
  · rw [if_neg hc] at h
    refine fhW.blk fhPF fhLL hΓ [(.iload_n 1, 0), (.iconst 3, 3)] (pc' := 100) (lv' := [(3, .int s0), (0, .ref v0), (1, .int v1)]) (st' := [.int (3 : Int32), .int v1]) (σ' := σ) (by decide +kernel) rfl rfl rfl ?_
    refine fhW.i_eq hΓ (tgt := 120) (show fhbk _ _ (.if_icmp .eq (20)) _ = true by decide +kernel) (fun hc => ?_) (fun hc => ?_)
    · rw [if_pos hc] at h
      refine fhW.sub (lv' := [(0, .ref v0), (1, .int v1), (3, .int s0)]) [1, 2, 0] rfl ?_
      exact L_X7_statementWord_120 hE hΓ hd v0 v1 s0 hv0 σ _ h hk
    · rw [if_neg hc] at h
      refine fhW.blk fhPF fhLL hΓ [(.iload_n 1, 0), (.iconst 5, 5)] (pc' := 105) (lv' := [(3, .int s0), (0, .ref v0), (1, .int v1)]) (st' := [.int (5 : Int32), .int v1]) (σ' := σ) (by decide +kernel) rfl rfl rfl ?_
      refine fhW.i_eq hΓ (tgt := 120) (show fhbk _ _ (.if_icmp .eq (15)) _ = true by decide +kernel) (fun hc => ?_) (fun hc => ?_)
      · rw [if_pos hc] at h
        refine fhW.sub (lv' := [(0, .ref v0), (1, .int v1), (3, .int s0)]) [1, 2, 0] rfl ?_
        exact L_X7_statementWord_120 hE hΓ hd v0 v1 s0 hv0 σ _ h hk
      · rw [if_neg hc] at h
        refine fhW.blk fhPF fhLL hΓ [(.iload_n 1, 0), (.bipush 6, 6)] (pc' := 111) (lv' := [(3, .int s0), (0, .ref v0), (1, .int v1)]) (st' := [.int (6 : Int32), .int v1]) (σ' := σ) (by decide +kernel) rfl rfl rfl ?_
        refine fhW.i_eq hΓ (tgt := 120) (show fhbk _ _ (.if_icmp .eq (9)) _ = true by decide +kernel) (fun hc => ?_) (fun hc => ?_)
        · rw [if_pos hc] at h
          refine fhW.sub (lv' := [(0, .ref v0), (1, .int v1), (3, .int s0)]) [1, 2, 0] rfl ?_
          exact L_X7_statementWord_120 hE hΓ hd v0 v1 s0 hv0 σ _ h hk
        · rw [if_neg hc] at h
          refine fhW.blk fhPF fhLL hΓ [(.iload_n 1, 0), (.bipush 7, 7)] (pc' := 117) (lv' := [(3, .int s0), (0, .ref v0), (1, .int v1)]) (st' := [.int (7 : Int32), .int v1]) (σ' := σ) (by decide +kernel) rfl rfl rfl ?_
          refine fhW.i_ne hΓ (tgt := 124) (show fhbk _ _ (.if_icmp .ne (7)) _ = true by decide +kernel) (fun hc => ?_) (fun hc => ?_)
          · rw [if_neg hc] at h
            refine fhW.blk fhPF fhLL hΓ [(.iconst 0, 0)] (pc' := 125) (lv' := [(3, .int s0), (0, .ref v0), (1, .int v1)]) (st' := [.int (0 : Int32)]) (σ' := σ) (by decide +kernel) rfl rfl rfl ?_
            refine fhW.sub (lv' := [(0, .ref v0), (1, .int v1), (3, .int s0)]) [1, 2, 0] rfl ?_
            exact L_X7_statementWord_125 hE hΓ hd v0 v1 s0 (0 : Int32) hv0 σ _ h hk
          · rw [if_pos hc] at h
            refine fhW.sub (lv' := [(0, .ref v0), (1, .int v1), (3, .int s0)]) [1, 2, 0] rfl ?_
            exact L_X7_statementWord_120 hE hΓ hd v0 v1 s0 hv0 σ _ h hk
set_option maxRecDepth 100000 in
set_option maxHeartbeats 4000000 in
theorem L_X7_statementWord_83 {Γ : fhX} (hE : fhEok fhYF (fhEn Γ)) (hΓ : fhOk fhYF 7 cX7_statementWord 5 (some .int) Γ) (hd : 2 ≤ fhD Γ) (v0 : Nat) (v1 : Int32) (hv0 : fhiP v0 = true) (σ : fhM) (o : Int32 × fhM) (h : f_X7_statementWord_83 v0 v1 σ = o) (hk : (fun o => fhRet Γ (some (.int o.1)) o.2) o) : fhW fhYF Γ 83 [(0, .ref v0), (1, .int v1)] [] σ := by
  unfold f_X7_statementWord_83 at h
  refine fhW.blk fhPF fhLL hΓ [(.iload_n 1, 0)] (pc' := 84) (lv' := [(0, .ref v0), (1, .int v1)]) (st' := [.int v1]) (σ' := σ) (by decide +kernel) rfl rfl rfl ?_
  refine fhW.z_ne hΓ (tgt := 91) (show fhbk _ _ (.ifCond .ne (7)) _ = true by decide +kernel) (fun hc => ?_) (fun hc => ?_)
  · simp only [if_neg hc] at h
    refine fhW.blk fhPF fhLL hΓ [(.iconst 0, 0)] (pc' := 92) (lv' := [(0, .ref v0), (1, .int v1)]) (st' := [.int (0 : Int32)]) (σ' := σ) (by decide +kernel) rfl rfl rfl ?_
    refine fhW.sub (lv' := [(0, .ref v0), (1, .int v1)]) [0, 1] rfl ?_
    exact L_X7_statementWord_92 hE hΓ hd v0 v1 (0 : Int32) hv0 σ _ h hk
  · simp only [if_pos hc] at h
    refine fhW.blk fhPF fhLL hΓ [(.iconst 1, 1)] (pc' := 88) (lv' := [(0, .ref v0), (1, .int v1)]) (st' := [.int (1 : Int32)]) (σ' := σ) (by decide +kernel) rfl rfl rfl ?_
    refine fhW.goto hΓ (off := 4) (tgt := 92) (by decide +kernel) ?_
    refine fhW.sub (lv' := [(0, .ref v0), (1, .int v1)]) [0, 1] rfl ?_
    exact L_X7_statementWord_92 hE hΓ hd v0 v1 (1 : Int32) hv0 σ _ h hk
set_option maxRecDepth 100000 in
set_option maxHeartbeats 4000000 in
theorem L_X7_statementWord_63 {Γ : fhX} (hE : fhEok fhYF (fhEn Γ)) (hΓ : fhOk fhYF 7 cX7_statementWord 5 (some .int) Γ) (hd : 2 ≤ fhD Γ) (v0 : Nat) (v1 : Int32) (s0 : Int32) (hv0 : fhiP v0 = true) (σ : fhM) (o : Int32 × fhM) (h : f_X7_statementWord_63 v0 v1 s0 σ = o) (hk : (fun o => fhRet Γ (some (.int o.1)) o.2) o) : fhW fhYF Γ 63 [(0, .ref v0), (1, .int v1)] [.int s0] σ := by
  unfold f_X7_statementWord_63 at h
  refine fhW.blk fhPF fhLL hΓ [(.istore_n 2, 0), (.iload_n 2, 0)] (pc' := 65) (lv' := [(2, .int s0), (0, .ref v0), (1, .int v1)]) (st' := [.int s0]) (σ' := σ) (by decide +kernel) rfl rfl rfl ?_
  refine fhW.z_eq hΓ (tgt := 83) (show fhbk _ _ (.ifCond .eq (18)) _ = true by decide +kernel) (fun hc => ?_) (fun hc => ?_)
  · rw [if_pos hc] at h
    refine fhW.sub (lv' := [(0, .ref v0), (1, .int v1)]) [1, 2] rfl ?_
    exact L_X7_statementWord_83 hE hΓ hd v0 v1 hv0 σ _ h hk
  · rw [if_neg hc] at h
    refine fhW.blk fhPF fhLL hΓ [(.aload_n 0, 0), (.getfield 36, 0), (.iconst 5, 5), (.aload_n 0, 0), (.getfield 36, 0), (.getfield 144, 0)] (pc' := 80) (lv' := [(2, .int s0), (0, .ref v0), (1, .int v1)]) (st' := [.int (σ.1 3 8), .int (5 : Int32), .ref 3]) (σ' := σ) (by decide +kernel) rfl rfl (by rcases fhiP_or hv0 with rfl | rfl <;> rfl) ?_
    refine fhW.callv hΓ mvX8_fail ml_7_67 (t := 3) (ci := 8) (av := [.int (5 : Int32), .int (σ.1 3 8)]) (rest := []) (r := none) (σ' := (f_X8_fail (5 : Int32) (σ.1 3 8) σ)) (T_X8_fail (E := fhEn Γ) (d := fhD Γ - 1) hE (by omega) (5 : Int32) (σ.1 3 8) σ) (by omega) (by decide +kernel) rfl rfl rfl (Nat.le_of_ble_eq_true rfl) rfl ?_
    show fhW fhYF Γ 83 [(2, .int s0), (0, .ref v0), (1, .int v1)] [] (f_X8_fail (5 : Int32) (σ.1 3 8) σ)
    obtain ⟨q1, e2, h⟩ := fhlet_elim h
    rw [← e2]
    refine fhW.sub (lv' := [(0, .ref v0), (1, .int v1)]) [1, 2] rfl ?_
    exact L_X7_statementWord_83 hE hΓ hd v0 v1 hv0 q1 _ h hk
set_option maxRecDepth 100000 in
set_option maxHeartbeats 4000000 in
theorem L_X7_statementWord_58 {Γ : fhX} (hE : fhEok fhYF (fhEn Γ)) (hΓ : fhOk fhYF 7 cX7_statementWord 5 (some .int) Γ) (hd : 2 ≤ fhD Γ) (v0 : Nat) (v1 : Int32) (hv0 : fhiP v0 = true) (σ : fhM) (o : Int32 × fhM) (h : f_X7_statementWord_58 v0 v1 σ = o) (hk : (fun o => fhRet Γ (some (.int o.1)) o.2) o) : fhW fhYF Γ 58 [(0, .ref v0), (1, .int v1)] [] σ := by
  unfold f_X7_statementWord_58 at h
  refine fhW.blk fhPF fhLL hΓ [(.iconst 1, 1)] (pc' := 59) (lv' := [(0, .ref v0), (1, .int v1)]) (st' := [.int (1 : Int32)]) (σ' := σ) (by decide +kernel) rfl rfl rfl ?_
  refine fhW.goto hΓ (off := 4) (tgt := 63) (by decide +kernel) ?_
  refine fhW.sub (lv' := [(0, .ref v0), (1, .int v1)]) [0, 1] rfl ?_
  exact L_X7_statementWord_63 hE hΓ hd v0 v1 (1 : Int32) hv0 σ _ h hk
set_option maxRecDepth 100000 in
set_option maxHeartbeats 4000000 in
theorem L_X7_statementWord_49 {Γ : fhX} (hE : fhEok fhYF (fhEn Γ)) (hΓ : fhOk fhYF 7 cX7_statementWord 5 (some .int) Γ) (hd : 2 ≤ fhD Γ) (v0 : Nat) (v1 : Int32) (hv0 : fhiP v0 = true) (σ : fhM) (o : Int32 × fhM) (h : f_X7_statementWord_49 v0 v1 σ = o) (hk : (fun o => fhRet Γ (some (.int o.1)) o.2) o) : fhW fhYF Γ 49 [(0, .ref v0), (1, .int v1)] [] σ := by
  unfold f_X7_statementWord_49 at h
  refine fhW.blk fhPF fhLL hΓ [(.aload_n 0, 0), (.getfield 64, 0), (.bipush 60, 60)] (pc' := 55) (lv' := [(0, .ref v0), (1, .int v1)]) (st' := [.int (60 : Int32), .int (σ.1 v0 8)]) (σ' := σ) (by decide +kernel) rfl rfl (by rcases fhiP_or hv0 with rfl | rfl <;> rfl) ?_
  refine fhW.i_lt hΓ (tgt := 62) (show fhbk _ _ (.if_icmp .lt (7)) _ = true by decide +kernel) (fun hc => ?_) (fun hc => ?_)
  · rw [if_pos hc] at h
    refine fhW.blk fhPF fhLL hΓ [(.iconst 0, 0)] (pc' := 63) (lv' := [(0, .ref v0), (1, .int v1)]) (st' := [.int (0 : Int32)]) (σ' := σ) (by decide +kernel) rfl rfl rfl ?_
    refine fhW.sub (lv' := [(0, .ref v0), (1, .int v1)]) [0, 1] rfl ?_
    exact L_X7_statementWord_63 hE hΓ hd v0 v1 (0 : Int32) hv0 σ _ h hk
  · rw [if_neg hc] at h
    refine fhW.sub (lv' := [(0, .ref v0), (1, .int v1)]) [0, 1] rfl ?_
    exact L_X7_statementWord_58 hE hΓ hd v0 v1 hv0 σ _ h hk
set_option maxRecDepth 100000 in
set_option maxHeartbeats 4000000 in
theorem L_X7_statementWord_34 {Γ : fhX} (hE : fhEok fhYF (fhEn Γ)) (hΓ : fhOk fhYF 7 cX7_statementWord 5 (some .int) Γ) (hd : 2 ≤ fhD Γ) (v0 : Nat) (v1 : Int32) (hv0 : fhiP v0 = true) (σ : fhM) (o : Int32 × fhM) (h : f_X7_statementWord_34 v0 v1 σ = o) (hk : (fun o => fhRet Γ (some (.int o.1)) o.2) o) : fhW fhYF Γ 34 [(0, .ref v0), (1, .int v1)] [] σ := by
  unfold f_X7_statementWord_34 at h
  refine fhW.blk fhPF fhLL hΓ [(.iload_n 1, 0), (.bipush 6, 6)] (pc' := 37) (lv' := [(0, .ref v0), (1, .int v1)]) (st' := [.int (6 : Int32), .int v1]) (σ' := σ) (by decide +kernel) rfl rfl rfl ?_
  refine fhW.i_ne hΓ (tgt := 49) (show fhbk _ _ (.if_icmp .ne (12)) _ = true by decide +kernel) (fun hc => ?_) (fun hc => ?_)
  · rw [if_neg hc] at h
    refine fhW.sub (lv' := [(0, .ref v0), (1, .int v1)]) [0, 1] rfl ?_
    exact L_X7_statementWord_49 hE hΓ hd v0 v1 hv0 σ _ h hk
  · rw [if_pos hc] at h
    refine fhW.blk fhPF fhLL hΓ [(.aload_n 0, 0), (.getfield 93, 0), (.bipush 8, 8)] (pc' := 46) (lv' := [(0, .ref v0), (1, .int v1)]) (st' := [.int (8 : Int32), .int (σ.1 v0 12)]) (σ' := σ) (by decide +kernel) rfl rfl (by rcases fhiP_or hv0 with rfl | rfl <;> rfl) ?_
    refine fhW.i_ge hΓ (tgt := 58) (show fhbk _ _ (.if_icmp .ge (12)) _ = true by decide +kernel) (fun hc => ?_) (fun hc => ?_)
    · rw [if_pos hc] at h
      refine fhW.sub (lv' := [(0, .ref v0), (1, .int v1)]) [0, 1] rfl ?_
      exact L_X7_statementWord_58 hE hΓ hd v0 v1 hv0 σ _ h hk
    · rw [if_neg hc] at h
      refine fhW.sub (lv' := [(0, .ref v0), (1, .int v1)]) [0, 1] rfl ?_
      exact L_X7_statementWord_49 hE hΓ hd v0 v1 hv0 σ _ h hk
set_option maxRecDepth 100000 in
set_option maxHeartbeats 4000000 in
theorem L_X7_statementWord_21 {Γ : fhX} (hE : fhEok fhYF (fhEn Γ)) (hΓ : fhOk fhYF 7 cX7_statementWord 5 (some .int) Γ) (hd : 2 ≤ fhD Γ) (v0 : Nat) (v1 : Int32) (hv0 : fhiP v0 = true) (σ : fhM) (o : Int32 × fhM) (h : f_X7_statementWord_21 v0 v1 σ = o) (hk : (fun o => fhRet Γ (some (.int o.1)) o.2) o) : fhW fhYF Γ 21 [(0, .ref v0), (1, .int v1)] [] σ := by
  unfold f_X7_statementWord_21 at h
  refine fhW.blk fhPF fhLL hΓ [(.iload_n 1, 0), (.iconst 5, 5)] (pc' := 23) (lv' := [(0, .ref v0), (1, .int v1)]) (st' := [.int (5 : Int32), .int v1]) (σ' := σ) (by decide +kernel) rfl rfl rfl ?_
  refine fhW.i_ne hΓ (tgt := 34) (show fhbk _ _ (.if_icmp .ne (11)) _ = true by decide +kernel) (fun hc => ?_) (fun hc => ?_)
  · rw [if_neg hc] at h
    refine fhW.sub (lv' := [(0, .ref v0), (1, .int v1)]) [0, 1] rfl ?_
    exact L_X7_statementWord_34 hE hΓ hd v0 v1 hv0 σ _ h hk
  · rw [if_pos hc] at h
    refine fhW.blk fhPF fhLL hΓ [(.aload_n 0, 0), (.getfield 90, 0), (.iconst 4, 4)] (pc' := 31) (lv' := [(0, .ref v0), (1, .int v1)]) (st' := [.int (4 : Int32), .int (σ.1 v0 11)]) (σ' := σ) (by decide +kernel) rfl rfl (by rcases fhiP_or hv0 with rfl | rfl <;> rfl) ?_
    refine fhW.i_ge hΓ (tgt := 58) (show fhbk _ _ (.if_icmp .ge (27)) _ = true by decide +kernel) (fun hc => ?_) (fun hc => ?_)
    · rw [if_pos hc] at h
      refine fhW.sub (lv' := [(0, .ref v0), (1, .int v1)]) [0, 1] rfl ?_
      exact L_X7_statementWord_58 hE hΓ hd v0 v1 hv0 σ _ h hk
    · rw [if_neg hc] at h
      refine fhW.sub (lv' := [(0, .ref v0), (1, .int v1)]) [0, 1] rfl ?_
      exact L_X7_statementWord_34 hE hΓ hd v0 v1 hv0 σ _ h hk
set_option maxRecDepth 100000 in
set_option maxHeartbeats 4000000 in
theorem L_X7_statementWord_E {Γ : fhX} (hE : fhEok fhYF (fhEn Γ)) (hΓ : fhOk fhYF 7 cX7_statementWord 5 (some .int) Γ) (hd : 2 ≤ fhD Γ) (v0 : Nat) (hv0 : fhiP v0 = true) (σ : fhM) (o : Int32 × fhM) (h : f_X7_statementWord v0 σ = o) (hk : (fun o => fhRet Γ (some (.int o.1)) o.2) o) : fhW fhYF Γ 0 [(0, .ref v0)] [] σ := by
  unfold f_X7_statementWord at h
  refine fhW.blk fhPF fhLL hΓ [(.aload_n 0, 0), (.getfield 36, 0)] (pc' := 4) (lv' := [(0, .ref v0)]) (st' := [.ref 3]) (σ' := σ) (by decide +kernel) rfl rfl (by rcases fhiP_or hv0 with rfl | rfl <;> rfl) ?_
  refine fhW.callv hΓ mvX8_wordHere ml_7_141 (t := 3) (ci := 8) (av := []) (rest := []) (r := (some (.int (f_X8_wordHere σ)))) (σ' := σ) (T_X8_wordHere (E := fhEn Γ) (d := fhD Γ - 1) hE (by omega) σ) (by omega) (by decide +kernel) rfl rfl rfl (Nat.le_of_ble_eq_true rfl) rfl ?_
  show fhW fhYF Γ 7 [(0, .ref v0)] [.int (f_X8_wordHere σ)] σ
  refine fhW.blk fhPF fhLL hΓ [(.istore_n 1, 0), (.iload_n 1, 0), (.iconst 1, 1)] (pc' := 10) (lv' := [(1, .int (f_X8_wordHere σ)), (0, .ref v0)]) (st' := [.int (1 : Int32), .int (f_X8_wordHere σ)]) (σ' := σ) (by decide +kernel) rfl rfl rfl ?_
  refine fhW.i_ne hΓ (tgt := 21) (show fhbk _ _ (.if_icmp .ne (11)) _ = true by decide +kernel) (fun hc => ?_) (fun hc => ?_)
  · rw [if_neg hc] at h
    refine fhW.sub (lv' := [(0, .ref v0), (1, .int (f_X8_wordHere σ))]) [1, 0] rfl ?_
    exact L_X7_statementWord_21 hE hΓ hd v0 (f_X8_wordHere σ) hv0 σ _ h hk
  · rw [if_pos hc] at h
    refine fhW.blk fhPF fhLL hΓ [(.aload_n 0, 0), (.getfield 77, 0), (.iconst 5, 5)] (pc' := 18) (lv' := [(1, .int (f_X8_wordHere σ)), (0, .ref v0)]) (st' := [.int (5 : Int32), .int (σ.1 v0 10)]) (σ' := σ) (by decide +kernel) rfl rfl (by rcases fhiP_or hv0 with rfl | rfl <;> rfl) ?_
    refine fhW.i_ge hΓ (tgt := 58) (show fhbk _ _ (.if_icmp .ge (40)) _ = true by decide +kernel) (fun hc => ?_) (fun hc => ?_)
    · rw [if_pos hc] at h
      refine fhW.sub (lv' := [(0, .ref v0), (1, .int (f_X8_wordHere σ))]) [1, 0] rfl ?_
      exact L_X7_statementWord_58 hE hΓ hd v0 (f_X8_wordHere σ) hv0 σ _ h hk
    · rw [if_neg hc] at h
      refine fhW.sub (lv' := [(0, .ref v0), (1, .int (f_X8_wordHere σ))]) [1, 0] rfl ?_
      exact L_X7_statementWord_21 hE hΓ hd v0 (f_X8_wordHere σ) hv0 σ _ h hk
set_option maxRecDepth 100000 in
theorem T_X7_statementWord {E : fhE} {d : Nat} (hE : fhEok fhYF E) (hd : 2 ≤ d) (v0 : Nat) (hv0 : fhiP v0 = true) (σ : fhM) : fhC fhYF E d miX7_statementWord [.ref v0] σ (some (.int (f_X7_statementWord v0 σ).1)) (f_X7_statementWord v0 σ).2 := by
  refine fhC.of (y := yX7_statementWord) (cc := cX7_statementWord) (nL := 5) (ret := (some .int)) 7 rfl (by decide +kernel) (Nat.le_of_ble_eq_true rfl) ?_
  intro Γ hΓ hR hD hEn
  subst hD; subst hEn
  exact L_X7_statementWord_E hE hΓ hd v0 hv0 σ _ rfl hR
set_option maxRecDepth 100000 in
set_option maxHeartbeats 4000000 in
theorem L_X8_takeNumber_36 {Γ : fhX} (hE : fhEok fhYF (fhEn Γ)) (hΓ : fhOk fhYF 8 cX8_takeNumber 2 (some .int) Γ) (hd : 2 ≤ fhD Γ)   (σ : fhM) (o : Int32 × fhM) (h : f_X8_takeNumber_36 σ = o) (hk : (fun o => fhRet Γ (some (.int o.1)) o.2) o) : fhW fhYF Γ 36 [(0, .ref 3)] [] σ := by
  unfold f_X8_takeNumber_36 at h
  refine fhW.blk fhPF fhLL hΓ [(.aload_n 0, 0), (.getfield 87, 0), (.istore_n 1, 0), (.aload_n 0, 0)] (pc' := 42) (lv' := [(1, .int (σ.1 3 6)), (0, .ref 3)]) (st' := [.ref 3]) (σ' := σ) (by decide +kernel) rfl rfl rfl ?_
  refine fhW.callv hΓ mvX8_advance ml_8_44 (t := 3) (ci := 8) (av := []) (rest := []) (r := none) (σ' := (f_X8_advance σ)) (T_X8_advance (E := fhEn Γ) (d := fhD Γ - 1) hE (by omega) σ) (by omega) (by decide +kernel) rfl rfl rfl (Nat.le_of_ble_eq_true rfl) rfl ?_
  show fhW fhYF Γ 45 [(1, .int (σ.1 3 6)), (0, .ref 3)] [] (f_X8_advance σ)
  obtain ⟨q3, e1, h⟩ := fhlet_elim h
  rw [← e1]
  refine fhW.blk fhPF fhLL hΓ [(.iload_n 1, 0)] (pc' := 46) (lv' := [(1, .int (σ.1 3 6)), (0, .ref 3)]) (st' := [.int (σ.1 3 6)]) (σ' := q3) (by decide +kernel) rfl rfl rfl ?_
  subst h
  exact fhW.iret hΓ (by decide +kernel) hk
set_option maxRecDepth 100000 in
set_option maxHeartbeats 4000000 in
theorem L_X8_takeNumber_12 {Γ : fhX} (hE : fhEok fhYF (fhEn Γ)) (hΓ : fhOk fhYF 8 cX8_takeNumber 2 (some .int) Γ) (hd : 2 ≤ fhD Γ)   (σ : fhM) (o : Int32 × fhM) (h : f_X8_takeNumber_12 σ = o) (hk : (fun o => fhRet Γ (some (.int o.1)) o.2) o) : fhW fhYF Γ 12 [(0, .ref 3)] [] σ := by
  unfold f_X8_takeNumber_12 at h
  refine fhW.blk fhPF fhLL hΓ [(.aload_n 0, 0), (.getfield 84, 0), (.aload_n 0, 0), (.getfield 78, 0), (.isub, 0), (.iconst 4, 4)] (pc' := 22) (lv' := [(0, .ref 3)]) (st' := [.int (4 : Int32), .int ((σ.1 3 5) - (σ.1 3 8))]) (σ' := σ) (by decide +kernel) rfl rfl rfl ?_
  refine fhW.i_le hΓ (tgt := 36) (show fhbk _ _ (.if_icmp .le (14)) _ = true by decide +kernel) (fun hc => ?_) (fun hc => ?_)
  · rw [if_pos hc] at h
    refine fhW.sub (lv' := [(0, .ref 3)]) [0] rfl ?_
    exact L_X8_takeNumber_36 hE hΓ hd σ _ h hk
  · rw [if_neg hc] at h
    refine fhW.blk fhPF fhLL hΓ [(.aload_n 0, 0), (.iconst 1, 1), (.aload_n 0, 0), (.getfield 78, 0), (.iconst 4, 4), (.iadd, 0)] (pc' := 33) (lv' := [(0, .ref 3)]) (st' := [.int ((σ.1 3 8) + (4 : Int32)), .int (1 : Int32), .ref 3]) (σ' := σ) (by decide +kernel) rfl rfl rfl ?_
    refine fhW.callv hΓ mvX8_fail ml_8_81 (t := 3) (ci := 8) (av := [.int (1 : Int32), .int ((σ.1 3 8) + (4 : Int32))]) (rest := []) (r := none) (σ' := (f_X8_fail (1 : Int32) ((σ.1 3 8) + (4 : Int32)) σ)) (T_X8_fail (E := fhEn Γ) (d := fhD Γ - 1) hE (by omega) (1 : Int32) ((σ.1 3 8) + (4 : Int32)) σ) (by omega) (by decide +kernel) rfl rfl rfl (Nat.le_of_ble_eq_true rfl) rfl ?_
    show fhW fhYF Γ 36 [(0, .ref 3)] [] (f_X8_fail (1 : Int32) ((σ.1 3 8) + (4 : Int32)) σ)
    obtain ⟨q2, e2, h⟩ := fhlet_elim h
    rw [← e2]
    refine fhW.sub (lv' := [(0, .ref 3)]) [0] rfl ?_
    exact L_X8_takeNumber_36 hE hΓ hd q2 _ h hk
set_option maxRecDepth 100000 in
set_option maxHeartbeats 4000000 in
theorem L_X8_takeNumber_E {Γ : fhX} (hE : fhEok fhYF (fhEn Γ)) (hΓ : fhOk fhYF 8 cX8_takeNumber 2 (some .int) Γ) (hd : 2 ≤ fhD Γ)   (σ : fhM) (o : Int32 × fhM) (h : f_X8_takeNumber σ = o) (hk : (fun o => fhRet Γ (some (.int o.1)) o.2) o) : fhW fhYF Γ 0 [(0, .ref 3)] [] σ := by
  unfold f_X8_takeNumber at h
  refine fhW.blk fhPF fhLL hΓ [(.aload_n 0, 0), (.getfield 75, 0), (.iconst 2, 2)] (pc' := 5) (lv' := [(0, .ref 3)]) (st' := [.int (2 : Int32), .int (σ.1 3 4)]) (σ' := σ) (by decide +kernel) rfl rfl rfl ?_
  refine fhW.i_eq hΓ (tgt := 12) (show fhbk _ _ (.if_icmp .eq (7)) _ = true by decide +kernel) (fun hc => ?_) (fun hc => ?_)
  · rw [if_pos hc] at h
    refine fhW.sub (lv' := [(0, .ref 3)]) [0] rfl ?_
    exact L_X8_takeNumber_12 hE hΓ hd σ _ h hk
  · rw [if_neg hc] at h
    refine fhW.blk fhPF fhLL hΓ [(.aload_n 0, 0)] (pc' := 9) (lv' := [(0, .ref 3)]) (st' := [.ref 3]) (σ' := σ) (by decide +kernel) rfl rfl rfl ?_
    refine fhW.callv hΓ mvX8_failHere ml_8_97 (t := 3) (ci := 8) (av := []) (rest := []) (r := none) (σ' := (f_X8_failHere σ)) (T_X8_failHere (E := fhEn Γ) (d := fhD Γ - 1) hE (by omega) σ) (by omega) (by decide +kernel) rfl rfl rfl (Nat.le_of_ble_eq_true rfl) rfl ?_
    show fhW fhYF Γ 12 [(0, .ref 3)] [] (f_X8_failHere σ)
    obtain ⟨q1, e3, h⟩ := fhlet_elim h
    rw [← e3]
    refine fhW.sub (lv' := [(0, .ref 3)]) [0] rfl ?_
    exact L_X8_takeNumber_12 hE hΓ hd q1 _ h hk
set_option maxRecDepth 100000 in
theorem T_X8_takeNumber {E : fhE} {d : Nat} (hE : fhEok fhYF E) (hd : 2 ≤ d)   (σ : fhM) : fhC fhYF E d miX8_takeNumber [.ref 3] σ (some (.int (f_X8_takeNumber σ).1)) (f_X8_takeNumber σ).2 := by
  refine fhC.of (y := yX8_takeNumber) (cc := cX8_takeNumber) (nL := 2) (ret := (some .int)) 8 rfl (by decide +kernel) (Nat.le_of_ble_eq_true rfl) ?_
  intro Γ hΓ hR hD hEn
  subst hD; subst hEn
  exact L_X8_takeNumber_E hE hΓ hd   σ _ rfl hR
set_option maxRecDepth 100000 in
set_option maxHeartbeats 4000000 in
theorem L_X8_takeNumberWithin_23 {Γ : fhX} (hE : fhEok fhYF (fhEn Γ)) (hΓ : fhOk fhYF 8 cX8_takeNumberWithin 5 (some .int) Γ) (hd : 3 ≤ fhD Γ) (v3 : Int32) (v4 : Int32)  (σ : fhM) (o : Int32 × fhM) (h : f_X8_takeNumberWithin_23 v3 v4 σ = o) (hk : (fun o => fhRet Γ (some (.int o.1)) o.2) o) : fhW fhYF Γ 23 [(0, .ref 3), (3, .int v3), (4, .int v4)] [] σ := by
  unfold f_X8_takeNumberWithin_23 at h
  refine fhW.blk fhPF fhLL hΓ [(.aload_n 0, 0), (.iconst 2, 2), (.iload_n 3, 0)] (pc' := 26) (lv' := [(0, .ref 3), (3, .int v3), (4, .int v4)]) (st' := [.int v3, .int (2 : Int32), .ref 3]) (σ' := σ) (by decide +kernel) rfl rfl rfl ?_
  refine fhW.callv hΓ mvX8_fail ml_8_81 (t := 3) (ci := 8) (av := [.int (2 : Int32), .int v3]) (rest := []) (r := none) (σ' := (f_X8_fail (2 : Int32) v3 σ)) (T_X8_fail (E := fhEn Γ) (d := fhD Γ - 1) hE (by omega) (2 : Int32) v3 σ) (by omega) (by decide +kernel) rfl rfl rfl (Nat.le_of_ble_eq_true rfl) rfl ?_
  show fhW fhYF Γ 29 [(0, .ref 3), (3, .int v3), (4, .int v4)] [] (f_X8_fail (2 : Int32) v3 σ)
  obtain ⟨q2, e1, h⟩ := fhlet_elim h
  rw [← e1]
  refine fhW.blk fhPF fhLL hΓ [(.iload 4, 0)] (pc' := 31) (lv' := [(0, .ref 3), (3, .int v3), (4, .int v4)]) (st' := [.int v4]) (σ' := q2) (by decide +kernel) rfl rfl rfl ?_
  subst h
  exact fhW.iret hΓ (by decide +kernel) hk
set_option maxRecDepth 100000 in
set_option maxHeartbeats 4000000 in
theorem L_X8_takeNumberWithin_E {Γ : fhX} (hE : fhEok fhYF (fhEn Γ)) (hΓ : fhOk fhYF 8 cX8_takeNumberWithin 5 (some .int) Γ) (hd : 3 ≤ fhD Γ) (v1 : Int32) (v2 : Int32)  (σ : fhM) (o : Int32 × fhM) (h : f_X8_takeNumberWithin v1 v2 σ = o) (hk : (fun o => fhRet Γ (some (.int o.1)) o.2) o) : fhW fhYF Γ 0 [(0, .ref 3), (1, .int v1), (2, .int v2)] [] σ := by
  unfold f_X8_takeNumberWithin at h
  refine fhW.blk fhPF fhLL hΓ [(.aload_n 0, 0), (.getfield 78, 0), (.istore_n 3, 0), (.aload_n 0, 0)] (pc' := 6) (lv' := [(3, .int (σ.1 3 8)), (0, .ref 3), (1, .int v1), (2, .int v2)]) (st' := [.ref 3]) (σ' := σ) (by decide +kernel) rfl rfl rfl ?_
  refine fhW.callv hΓ mvX8_takeNumber ml_8_104 (t := 3) (ci := 8) (av := []) (rest := []) (r := (some (.int (f_X8_takeNumber σ).1))) (σ' := (f_X8_takeNumber σ).2) (T_X8_takeNumber (E := fhEn Γ) (d := fhD Γ - 1) hE (by omega) σ) (by omega) (by decide +kernel) rfl rfl rfl (Nat.le_of_ble_eq_true rfl) rfl ?_
  show fhW fhYF Γ 9 [(3, .int (σ.1 3 8)), (0, .ref 3), (1, .int v1), (2, .int v2)] [.int (f_X8_takeNumber σ).1] (f_X8_takeNumber σ).2
  obtain ⟨q1, e2, h⟩ := fhlet_elim h
  rw [← e2]
  refine fhW.blk fhPF fhLL hΓ [(.istore 4, 0), (.iload 4, 0), (.iload_n 1, 0)] (pc' := 14) (lv' := [(4, .int q1.1), (3, .int (σ.1 3 8)), (0, .ref 3), (1, .int v1), (2, .int v2)]) (st' := [.int v1, .int q1.1]) (σ' := q1.2) (by decide +kernel) rfl rfl rfl ?_
  refine fhW.i_lt hΓ (tgt := 23) (show fhbk _ _ (.if_icmp .lt (9)) _ = true by decide +kernel) (fun hc => ?_) (fun hc => ?_)
  · rw [if_pos hc] at h
    refine fhW.sub (lv' := [(0, .ref 3), (3, .int (σ.1 3 8)), (4, .int q1.1)]) [2, 1, 0] rfl ?_
    exact L_X8_takeNumberWithin_23 hE hΓ hd (σ.1 3 8) q1.1 q1.2 _ h hk
  · rw [if_neg hc] at h
    refine fhW.blk fhPF fhLL hΓ [(.iload 4, 0), (.iload_n 2, 0)] (pc' := 20) (lv' := [(4, .int q1.1), (3, .int (σ.1 3 8)), (0, .ref 3), (1, .int v1), (2, .int v2)]) (st' := [.int v2, .int q1.1]) (σ' := q1.2) (by decide +kernel) rfl rfl rfl ?_
    refine fhW.i_le hΓ (tgt := 29) (show fhbk _ _ (.if_icmp .le (9)) _ = true by decide +kernel) (fun hc => ?_) (fun hc => ?_)
    · rw [if_pos hc] at h
      refine fhW.blk fhPF fhLL hΓ [(.iload 4, 0)] (pc' := 31) (lv' := [(4, .int q1.1), (3, .int (σ.1 3 8)), (0, .ref 3), (1, .int v1), (2, .int v2)]) (st' := [.int q1.1]) (σ' := q1.2) (by decide +kernel) rfl rfl rfl ?_
      subst h
      exact fhW.iret hΓ (by decide +kernel) hk
    · rw [if_neg hc] at h
      refine fhW.sub (lv' := [(0, .ref 3), (3, .int (σ.1 3 8)), (4, .int q1.1)]) [2, 1, 0] rfl ?_
      exact L_X8_takeNumberWithin_23 hE hΓ hd (σ.1 3 8) q1.1 q1.2 _ h hk
set_option maxRecDepth 100000 in
theorem T_X8_takeNumberWithin {E : fhE} {d : Nat} (hE : fhEok fhYF E) (hd : 3 ≤ d) (v1 : Int32) (v2 : Int32)  (σ : fhM) : fhC fhYF E d miX8_takeNumberWithin [.ref 3, .int v1, .int v2] σ (some (.int (f_X8_takeNumberWithin v1 v2 σ).1)) (f_X8_takeNumberWithin v1 v2 σ).2 := by
  refine fhC.of (y := yX8_takeNumberWithin) (cc := cX8_takeNumberWithin) (nL := 5) (ret := (some .int)) 8 rfl (by decide +kernel) (Nat.le_of_ble_eq_true rfl) ?_
  intro Γ hΓ hR hD hEn
  subst hD; subst hEn
  exact L_X8_takeNumberWithin_E hE hΓ hd v1 v2  σ _ rfl hR
set_option maxRecDepth 100000 in
set_option maxHeartbeats 4000000 in
theorem L_X8_takeName_47 {Γ : fhX} (hE : fhEok fhYF (fhEn Γ)) (hΓ : fhOk fhYF 8 cX8_takeName 2 (some .int) Γ) (hd : 2 ≤ fhD Γ)   (σ : fhM) (o : Int32 × fhM) (h : f_X8_takeName_47 σ = o) (hk : (fun o => fhRet Γ (some (.int o.1)) o.2) o) : fhW fhYF Γ 47 [(0, .ref 3)] [] σ := by
  unfold f_X8_takeName_47 at h
  refine fhW.blk fhPF fhLL hΓ [(.aload_n 0, 0), (.getfield 87, 0), (.istore_n 1, 0), (.aload_n 0, 0)] (pc' := 53) (lv' := [(1, .int (σ.1 3 6)), (0, .ref 3)]) (st' := [.ref 3]) (σ' := σ) (by decide +kernel) rfl rfl rfl ?_
  refine fhW.callv hΓ mvX8_advance ml_8_44 (t := 3) (ci := 8) (av := []) (rest := []) (r := none) (σ' := (f_X8_advance σ)) (T_X8_advance (E := fhEn Γ) (d := fhD Γ - 1) hE (by omega) σ) (by omega) (by decide +kernel) rfl rfl rfl (Nat.le_of_ble_eq_true rfl) rfl ?_
  show fhW fhYF Γ 56 [(1, .int (σ.1 3 6)), (0, .ref 3)] [] (f_X8_advance σ)
  obtain ⟨q3, e1, h⟩ := fhlet_elim h
  rw [← e1]
  refine fhW.blk fhPF fhLL hΓ [(.iload_n 1, 0)] (pc' := 57) (lv' := [(1, .int (σ.1 3 6)), (0, .ref 3)]) (st' := [.int (σ.1 3 6)]) (σ' := q3) (by decide +kernel) rfl rfl rfl ?_
  subst h
  exact fhW.iret hΓ (by decide +kernel) hk
set_option maxRecDepth 100000 in
set_option maxHeartbeats 4000000 in
theorem L_X8_takeName_21 {Γ : fhX} (hE : fhEok fhYF (fhEn Γ)) (hΓ : fhOk fhYF 8 cX8_takeName 2 (some .int) Γ) (hd : 2 ≤ fhD Γ)   (σ : fhM) (o : Int32 × fhM) (h : f_X8_takeName_21 σ = o) (hk : (fun o => fhRet Γ (some (.int o.1)) o.2) o) : fhW fhYF Γ 21 [(0, .ref 3)] [] σ := by
  unfold f_X8_takeName_21 at h
  refine fhW.blk fhPF fhLL hΓ [(.aload_n 0, 0), (.getfield 84, 0), (.aload_n 0, 0), (.getfield 78, 0), (.isub, 0), (.bipush 6, 6)] (pc' := 32) (lv' := [(0, .ref 3)]) (st' := [.int (6 : Int32), .int ((σ.1 3 5) - (σ.1 3 8))]) (σ' := σ) (by decide +kernel) rfl rfl rfl ?_
  refine fhW.i_le hΓ (tgt := 47) (show fhbk _ _ (.if_icmp .le (15)) _ = true by decide +kernel) (fun hc => ?_) (fun hc => ?_)
  · rw [if_pos hc] at h
    refine fhW.sub (lv' := [(0, .ref 3)]) [0] rfl ?_
    exact L_X8_takeName_47 hE hΓ hd σ _ h hk
  · rw [if_neg hc] at h
    refine fhW.blk fhPF fhLL hΓ [(.aload_n 0, 0), (.iconst 1, 1), (.aload_n 0, 0), (.getfield 78, 0), (.bipush 6, 6), (.iadd, 0)] (pc' := 44) (lv' := [(0, .ref 3)]) (st' := [.int ((σ.1 3 8) + (6 : Int32)), .int (1 : Int32), .ref 3]) (σ' := σ) (by decide +kernel) rfl rfl rfl ?_
    refine fhW.callv hΓ mvX8_fail ml_8_81 (t := 3) (ci := 8) (av := [.int (1 : Int32), .int ((σ.1 3 8) + (6 : Int32))]) (rest := []) (r := none) (σ' := (f_X8_fail (1 : Int32) ((σ.1 3 8) + (6 : Int32)) σ)) (T_X8_fail (E := fhEn Γ) (d := fhD Γ - 1) hE (by omega) (1 : Int32) ((σ.1 3 8) + (6 : Int32)) σ) (by omega) (by decide +kernel) rfl rfl rfl (Nat.le_of_ble_eq_true rfl) rfl ?_
    show fhW fhYF Γ 47 [(0, .ref 3)] [] (f_X8_fail (1 : Int32) ((σ.1 3 8) + (6 : Int32)) σ)
    obtain ⟨q2, e2, h⟩ := fhlet_elim h
    rw [← e2]
    refine fhW.sub (lv' := [(0, .ref 3)]) [0] rfl ?_
    exact L_X8_takeName_47 hE hΓ hd q2 _ h hk
set_option maxRecDepth 100000 in
set_option maxHeartbeats 4000000 in
theorem L_X8_takeName_17 {Γ : fhX} (hE : fhEok fhYF (fhEn Γ)) (hΓ : fhOk fhYF 8 cX8_takeName 2 (some .int) Γ) (hd : 2 ≤ fhD Γ)   (σ : fhM) (o : Int32 × fhM) (h : f_X8_takeName_17 σ = o) (hk : (fun o => fhRet Γ (some (.int o.1)) o.2) o) : fhW fhYF Γ 17 [(0, .ref 3)] [] σ := by
  unfold f_X8_takeName_17 at h
  refine fhW.blk fhPF fhLL hΓ [(.aload_n 0, 0)] (pc' := 18) (lv' := [(0, .ref 3)]) (st' := [.ref 3]) (σ' := σ) (by decide +kernel) rfl rfl rfl ?_
  refine fhW.callv hΓ mvX8_failHere ml_8_97 (t := 3) (ci := 8) (av := []) (rest := []) (r := none) (σ' := (f_X8_failHere σ)) (T_X8_failHere (E := fhEn Γ) (d := fhD Γ - 1) hE (by omega) σ) (by omega) (by decide +kernel) rfl rfl rfl (Nat.le_of_ble_eq_true rfl) rfl ?_
  show fhW fhYF Γ 21 [(0, .ref 3)] [] (f_X8_failHere σ)
  obtain ⟨q1, e3, h⟩ := fhlet_elim h
  rw [← e3]
  refine fhW.sub (lv' := [(0, .ref 3)]) [0] rfl ?_
  exact L_X8_takeName_21 hE hΓ hd q1 _ h hk
set_option maxRecDepth 100000 in
set_option maxHeartbeats 4000000 in
theorem L_X8_takeName_E {Γ : fhX} (hE : fhEok fhYF (fhEn Γ)) (hΓ : fhOk fhYF 8 cX8_takeName 2 (some .int) Γ) (hd : 2 ≤ fhD Γ)   (σ : fhM) (o : Int32 × fhM) (h : f_X8_takeName σ = o) (hk : (fun o => fhRet Γ (some (.int o.1)) o.2) o) : fhW fhYF Γ 0 [(0, .ref 3)] [] σ := by
  unfold f_X8_takeName at h
  refine fhW.blk fhPF fhLL hΓ [(.aload_n 0, 0), (.getfield 75, 0), (.iconst 1, 1)] (pc' := 5) (lv' := [(0, .ref 3)]) (st' := [.int (1 : Int32), .int (σ.1 3 4)]) (σ' := σ) (by decide +kernel) rfl rfl rfl ?_
  refine fhW.i_ne hΓ (tgt := 17) (show fhbk _ _ (.if_icmp .ne (12)) _ = true by decide +kernel) (fun hc => ?_) (fun hc => ?_)
  · rw [if_neg hc] at h
    refine fhW.sub (lv' := [(0, .ref 3)]) [0] rfl ?_
    exact L_X8_takeName_17 hE hΓ hd σ _ h hk
  · rw [if_pos hc] at h
    refine fhW.blk fhPF fhLL hΓ [(.aload_n 0, 0), (.getfield 90, 0), (.bipush 26, 26)] (pc' := 14) (lv' := [(0, .ref 3)]) (st' := [.int (26 : Int32), .int (σ.1 3 7)]) (σ' := σ) (by decide +kernel) rfl rfl rfl ?_
    refine fhW.i_ge hΓ (tgt := 21) (show fhbk _ _ (.if_icmp .ge (7)) _ = true by decide +kernel) (fun hc => ?_) (fun hc => ?_)
    · rw [if_pos hc] at h
      refine fhW.sub (lv' := [(0, .ref 3)]) [0] rfl ?_
      exact L_X8_takeName_21 hE hΓ hd σ _ h hk
    · rw [if_neg hc] at h
      refine fhW.sub (lv' := [(0, .ref 3)]) [0] rfl ?_
      exact L_X8_takeName_17 hE hΓ hd σ _ h hk
set_option maxRecDepth 100000 in
theorem T_X8_takeName {E : fhE} {d : Nat} (hE : fhEok fhYF E) (hd : 2 ≤ d)   (σ : fhM) : fhC fhYF E d miX8_takeName [.ref 3] σ (some (.int (f_X8_takeName σ).1)) (f_X8_takeName σ).2 := by
  refine fhC.of (y := yX8_takeName) (cc := cX8_takeName) (nL := 2) (ret := (some .int)) 8 rfl (by decide +kernel) (Nat.le_of_ble_eq_true rfl) ?_
  intro Γ hΓ hR hD hEn
  subst hD; subst hEn
  exact L_X8_takeName_E hE hΓ hd   σ _ rfl hR
set_option maxRecDepth 100000 in
set_option maxHeartbeats 4000000 in
theorem L_X7_guestNamed_2 {Γ : fhX} (hE : fhEok fhYF (fhEn Γ)) (hΓ : fhOk fhYF 7 cX7_guestNamed 3 (some .int) Γ) (hd : 1 ≤ fhD Γ) (v0 : Nat) (v1 : Int32) (v2 : Int32) (hv0 : fhiP v0 = true) (σ : fhM) (o : (Int32) ⊕ (Int32)) (h : f_X7_guestNamed_2 v0 v1 v2 σ = some o) (hk : (fhK (fun x => fhW fhYF Γ 2 [(0, .ref v0), (1, .int v1), (2, .int x)] [] σ) (fun o => fhRet Γ (some (.int o)) σ)) o) : fhW fhYF Γ 2 [(0, .ref v0), (1, .int v1), (2, .int v2)] [] σ := by
  unfold f_X7_guestNamed_2 at h
  refine fhW.blk fhPF fhLL hΓ [(.iload_n 2, 0), (.aload_n 0, 0), (.getfield 77, 0)] (pc' := 7) (lv' := [(0, .ref v0), (1, .int v1), (2, .int v2)]) (st' := [.int (σ.1 v0 10), .int v2]) (σ' := σ) (by decide +kernel) rfl rfl (by rcases fhiP_or hv0 with rfl | rfl <;> rfl) ?_
  refine fhW.i_ge hΓ (tgt := 30) (show fhbk _ _ (.if_icmp .ge (23)) _ = true by decide +kernel) (fun hc => ?_) (fun hc => ?_)
  · rw [if_pos hc] at h
    refine fhW.blk fhPF fhLL hΓ [(.iconst (-1), -1)] (pc' := 31) (lv' := [(0, .ref v0), (1, .int v1), (2, .int v2)]) (st' := [.int (-1 : Int32)]) (σ' := σ) (by decide +kernel) rfl rfl rfl ?_
    have e9 := Option.some.inj h
    subst e9
    exact fhW.iret hΓ (by decide +kernel) hk
  · rw [if_neg hc] at h
    refine fhW.blk fhPF fhLL hΓ [(.aload_n 0, 0), (.getfield 33, 0), (.iload_n 2, 0)] (pc' := 15) (lv' := [(0, .ref v0), (1, .int v1), (2, .int v2)]) (st' := [.int v2, .ref (v0 + 10)]) (σ' := σ) (by decide +kernel) rfl rfl (by rcases fhiP_or hv0 with rfl | rfl <;> rfl) ?_
    refine fhW.callv hΓ mvX2_get ml_7_163 (t := (v0 + 10)) (ci := 2) (av := [.int v2]) (rest := []) (r := (some (.int (fcG σ (v0 + 10) v2)))) (σ' := σ) (T_X2_get (E := fhEn Γ) (d := fhD Γ - 1) hE (by omega) (v0 + 10) v2 (fhiP_ind (p := fun q => fhiC (q + 10) = true) hv0 rfl rfl) σ) (by omega) (by decide +kernel) rfl (fhiC_g (fhiP_ind (p := fun q => fhiC (q + 10) = true) hv0 rfl rfl)) rfl (Nat.le_of_ble_eq_true rfl) rfl ?_
    show fhW fhYF Γ 18 [(0, .ref v0), (1, .int v1), (2, .int v2)] [.int (fcG σ (v0 + 10) v2)] σ
    refine fhW.blk fhPF fhLL hΓ [(.iload_n 1, 0)] (pc' := 19) (lv' := [(0, .ref v0), (1, .int v1), (2, .int v2)]) (st' := [.int v1, .int (fcG σ (v0 + 10) v2)]) (σ' := σ) (by decide +kernel) rfl rfl rfl ?_
    refine fhW.i_ne hΓ (tgt := 24) (show fhbk _ _ (.if_icmp .ne (5)) _ = true by decide +kernel) (fun hc => ?_) (fun hc => ?_)
    · rw [if_neg hc] at h
      refine fhW.blk fhPF fhLL hΓ [(.iinc 2 1, 1)] (pc' := 27) (lv' := [(2, .int (v2 + (1 : Int32))), (0, .ref v0), (1, .int v1)]) (st' := []) (σ' := σ) (by decide +kernel) rfl rfl rfl ?_
      refine fhW.goto hΓ (off := (-25)) (tgt := 2) (by decide +kernel) ?_
      refine fhW.sub (lv' := [(0, .ref v0), (1, .int v1), (2, .int (v2 + (1 : Int32)))]) [1, 2, 0] rfl ?_
      have e9 := Option.some.inj h
      subst e9
      exact hk
    · rw [if_pos hc] at h
      refine fhW.blk fhPF fhLL hΓ [(.iload_n 2, 0)] (pc' := 23) (lv' := [(0, .ref v0), (1, .int v1), (2, .int v2)]) (st' := [.int v2]) (σ' := σ) (by decide +kernel) rfl rfl rfl ?_
      have e9 := Option.some.inj h
      subst e9
      exact fhW.iret hΓ (by decide +kernel) hk
set_option maxRecDepth 100000 in
set_option maxHeartbeats 4000000 in
theorem L_X7_guestNamed_E {Γ : fhX} (hE : fhEok fhYF (fhEn Γ)) (hΓ : fhOk fhYF 7 cX7_guestNamed 3 (some .int) Γ) (hd : 1 ≤ fhD Γ) (v0 : Nat) (v1 : Int32) (hv0 : fhiP v0 = true) (σ : fhM) (o : Int32) (h : f_X7_guestNamed v0 v1 σ = some o) (hk : (fun o => fhRet Γ (some (.int o)) σ) o) : fhW fhYF Γ 0 [(0, .ref v0), (1, .int v1)] [] σ := by
  unfold f_X7_guestNamed at h
  refine fhW.blk fhPF fhLL hΓ [(.iconst 0, 0), (.istore_n 2, 0)] (pc' := 2) (lv' := [(2, .int (0 : Int32)), (0, .ref v0), (1, .int v1)]) (st' := []) (σ' := σ) (by decide +kernel) rfl rfl rfl ?_
  refine fhW.sub (lv' := [(0, .ref v0), (1, .int v1), (2, .int (0 : Int32))]) [1, 2, 0] rfl ?_
  exact fhlp_ok (W := (fun x => fhW fhYF Γ 2 [(0, .ref v0), (1, .int v1), (2, .int x)] [] σ)) (B := (fun o => fhRet Γ (some (.int o)) σ)) (fun x o h hk => L_X7_guestNamed_2 hE hΓ hd v0 v1 x hv0 σ o h hk) (0 : Int32) _ h hk
set_option maxRecDepth 100000 in
theorem T_X7_guestNamed {E : fhE} {d : Nat} (hE : fhEok fhYF E) (hd : 1 ≤ d) (v0 : Nat) (v1 : Int32) (hv0 : fhiP v0 = true) (σ : fhM) {o : Int32} (h : f_X7_guestNamed v0 v1 σ = some o) : fhC fhYF E d miX7_guestNamed [.ref v0, .int v1] σ (some (.int o)) σ := by
  refine fhC.of (y := yX7_guestNamed) (cc := cX7_guestNamed) (nL := 3) (ret := (some .int)) 7 rfl (by decide +kernel) (Nat.le_of_ble_eq_true rfl) ?_
  intro Γ hΓ hR hD hEn
  subst hD; subst hEn
  exact L_X7_guestNamed_E hE hΓ hd v0 v1 hv0 σ _ h hR
set_option maxRecDepth 100000 in
set_option maxHeartbeats 4000000 in
theorem L_X8_isWord_E {Γ : fhX} (hE : fhEok fhYF (fhEn Γ)) (hΓ : fhOk fhYF 8 cX8_isWord 2 (some .boolean) Γ) (hd : 0 ≤ fhD Γ) (v1 : Int32)  (σ : fhM) (o : Bool) (h : f_X8_isWord v1 σ = o) (hk : (fun o => fhRet Γ (some (.int (fhb o))) σ) o) : fhW fhYF Γ 0 [(0, .ref 3), (1, .int v1)] [] σ := by
  unfold f_X8_isWord at h
  refine fhW.blk fhPF fhLL hΓ [(.aload_n 0, 0), (.getfield 75, 0), (.iconst 1, 1)] (pc' := 5) (lv' := [(0, .ref 3), (1, .int v1)]) (st' := [.int (1 : Int32), .int (σ.1 3 4)]) (σ' := σ) (by decide +kernel) rfl rfl rfl ?_
  refine fhW.i_ne hΓ (tgt := 20) (show fhbk _ _ (.if_icmp .ne (15)) _ = true by decide +kernel) (fun hc => ?_) (fun hc => ?_)
  · rw [if_neg hc] at h
    refine fhW.blk fhPF fhLL hΓ [(.iconst 0, 0)] (pc' := 21) (lv' := [(0, .ref 3), (1, .int v1)]) (st' := [.int (0 : Int32)]) (σ' := σ) (by decide +kernel) rfl rfl rfl ?_
    subst h
    exact fhW.zret (v := false) hΓ (by decide +kernel) hk
  · rw [if_pos hc] at h
    refine fhW.blk fhPF fhLL hΓ [(.aload_n 0, 0), (.getfield 90, 0), (.iload_n 1, 0)] (pc' := 13) (lv' := [(0, .ref 3), (1, .int v1)]) (st' := [.int v1, .int (σ.1 3 7)]) (σ' := σ) (by decide +kernel) rfl rfl rfl ?_
    refine fhW.i_ne hΓ (tgt := 20) (show fhbk _ _ (.if_icmp .ne (7)) _ = true by decide +kernel) (fun hc => ?_) (fun hc => ?_)
    · rw [if_neg hc] at h
      refine fhW.blk fhPF fhLL hΓ [(.iconst 0, 0)] (pc' := 21) (lv' := [(0, .ref 3), (1, .int v1)]) (st' := [.int (0 : Int32)]) (σ' := σ) (by decide +kernel) rfl rfl rfl ?_
      subst h
      exact fhW.zret (v := false) hΓ (by decide +kernel) hk
    · rw [if_pos hc] at h
      refine fhW.blk fhPF fhLL hΓ [(.iconst 1, 1)] (pc' := 17) (lv' := [(0, .ref 3), (1, .int v1)]) (st' := [.int (1 : Int32)]) (σ' := σ) (by decide +kernel) rfl rfl rfl ?_
      refine fhW.goto hΓ (off := 4) (tgt := 21) (by decide +kernel) ?_
      subst h
      exact fhW.zret (v := true) hΓ (by decide +kernel) hk
set_option maxRecDepth 100000 in
theorem T_X8_isWord {E : fhE} {d : Nat} (hE : fhEok fhYF E) (hd : 0 ≤ d) (v1 : Int32)  (σ : fhM) : fhC fhYF E d miX8_isWord [.ref 3, .int v1] σ (some (.int (fhb (f_X8_isWord v1 σ)))) σ := by
  refine fhC.of (y := yX8_isWord) (cc := cX8_isWord) (nL := 2) (ret := (some .boolean)) 8 rfl (by decide +kernel) (Nat.le_of_ble_eq_true rfl) ?_
  intro Γ hΓ hR hD hEn
  subst hD; subst hEn
  exact L_X8_isWord_E hE hΓ hd v1  σ _ rfl hR
set_option maxRecDepth 100000 in
set_option maxHeartbeats 4000000 in
theorem L_X8_takeWord_12 {Γ : fhX} (hE : fhEok fhYF (fhEn Γ)) (hΓ : fhOk fhYF 8 cX8_takeWord 2 none Γ) (hd : 2 ≤ fhD Γ)   (σ : fhM) (o : fhM) (h : f_X8_takeWord_12 σ = o) (hk : (fun o => fhRet Γ none o) o) : fhW fhYF Γ 12 [(0, .ref 3)] [] σ := by
  unfold f_X8_takeWord_12 at h
  refine fhW.blk fhPF fhLL hΓ [(.aload_n 0, 0)] (pc' := 13) (lv' := [(0, .ref 3)]) (st' := [.ref 3]) (σ' := σ) (by decide +kernel) rfl rfl rfl ?_
  refine fhW.callv hΓ mvX8_advance ml_8_44 (t := 3) (ci := 8) (av := []) (rest := []) (r := none) (σ' := (f_X8_advance σ)) (T_X8_advance (E := fhEn Γ) (d := fhD Γ - 1) hE (by omega) σ) (by omega) (by decide +kernel) rfl rfl rfl (Nat.le_of_ble_eq_true rfl) rfl ?_
  show fhW fhYF Γ 16 [(0, .ref 3)] [] (f_X8_advance σ)
  obtain ⟨q2, e1, h⟩ := fhlet_elim h
  rw [← e1]
  subst h
  exact fhW.vret hΓ (by decide +kernel) hk
set_option maxRecDepth 100000 in
set_option maxHeartbeats 4000000 in
theorem L_X8_takeWord_E {Γ : fhX} (hE : fhEok fhYF (fhEn Γ)) (hΓ : fhOk fhYF 8 cX8_takeWord 2 none Γ) (hd : 2 ≤ fhD Γ) (v1 : Int32)  (σ : fhM) (o : fhM) (h : f_X8_takeWord v1 σ = o) (hk : (fun o => fhRet Γ none o) o) : fhW fhYF Γ 0 [(0, .ref 3), (1, .int v1)] [] σ := by
  unfold f_X8_takeWord at h
  refine fhW.blk fhPF fhLL hΓ [(.aload_n 0, 0), (.iload_n 1, 0)] (pc' := 2) (lv' := [(0, .ref 3), (1, .int v1)]) (st' := [.int v1, .ref 3]) (σ' := σ) (by decide +kernel) rfl rfl rfl ?_
  refine fhW.callv hΓ mvX8_isWord ml_8_93 (t := 3) (ci := 8) (av := [.int v1]) (rest := []) (r := (some (.int (fhb (f_X8_isWord v1 σ))))) (σ' := σ) (T_X8_isWord (E := fhEn Γ) (d := fhD Γ - 1) hE (by omega) v1 σ) (by omega) (by decide +kernel) rfl rfl rfl (Nat.le_of_ble_eq_true rfl) rfl ?_
  show fhW fhYF Γ 5 [(0, .ref 3), (1, .int v1)] [.int (fhb (f_X8_isWord v1 σ))] σ
  refine fhW.b_ne hΓ (tgt := 12) (show fhbk _ _ (.ifCond .ne (7)) _ = true by decide +kernel) (fun hc => ?_) (fun hc => ?_)
  · rw [if_pos hc] at h
    refine fhW.sub (lv' := [(0, .ref 3)]) [0] rfl ?_
    exact L_X8_takeWord_12 hE hΓ hd σ _ h hk
  · rw [if_neg hc] at h
    refine fhW.blk fhPF fhLL hΓ [(.aload_n 0, 0)] (pc' := 9) (lv' := [(0, .ref 3), (1, .int v1)]) (st' := [.ref 3]) (σ' := σ) (by decide +kernel) rfl rfl rfl ?_
    refine fhW.callv hΓ mvX8_failHere ml_8_97 (t := 3) (ci := 8) (av := []) (rest := []) (r := none) (σ' := (f_X8_failHere σ)) (T_X8_failHere (E := fhEn Γ) (d := fhD Γ - 1) hE (by omega) σ) (by omega) (by decide +kernel) rfl rfl rfl (Nat.le_of_ble_eq_true rfl) rfl ?_
    show fhW fhYF Γ 12 [(0, .ref 3), (1, .int v1)] [] (f_X8_failHere σ)
    obtain ⟨q1, e2, h⟩ := fhlet_elim h
    rw [← e2]
    refine fhW.sub (lv' := [(0, .ref 3)]) [0] rfl ?_
    exact L_X8_takeWord_12 hE hΓ hd q1 _ h hk
set_option maxRecDepth 100000 in
theorem T_X8_takeWord {E : fhE} {d : Nat} (hE : fhEok fhYF E) (hd : 2 ≤ d) (v1 : Int32)  (σ : fhM) : fhC fhYF E d miX8_takeWord [.ref 3, .int v1] σ none (f_X8_takeWord v1 σ) := by
  refine fhC.of (y := yX8_takeWord) (cc := cX8_takeWord) (nL := 2) (ret := none) 8 rfl (by decide +kernel) (Nat.le_of_ble_eq_true rfl) ?_
  intro Γ hΓ hR hD hEn
  subst hD; subst hEn
  exact L_X8_takeWord_E hE hΓ hd v1  σ _ rfl hR
set_option maxRecDepth 100000 in
set_option maxHeartbeats 4000000 in
theorem L_X7_readGuest_34 {Γ : fhX} (hE : fhEok fhYF (fhEn Γ)) (hΓ : fhOk fhYF 7 cX7_readGuest 4 none Γ) (hd : 4 ≤ fhD Γ) (v0 : Nat) (v2 : Int32) (hv0 : fhiP v0 = true) (σ : fhM) (o : fhM) (h : f_X7_readGuest_34 v0 v2 σ = some o) (hk : (fun o => fhRet Γ none o) o) : fhW fhYF Γ 34 [(0, .ref v0), (2, .int v2)] [] σ := by
  unfold f_X7_readGuest_34 at h
  refine fhW.blk fhPF fhLL hΓ [(.aload_n 0, 0), (.getfield 36, 0), (.iconst 2, 2)] (pc' := 39) (lv' := [(0, .ref v0), (2, .int v2)]) (st' := [.int (2 : Int32), .ref 3]) (σ' := σ) (by decide +kernel) rfl rfl (by rcases fhiP_or hv0 with rfl | rfl <;> rfl) ?_
  refine fhW.callv hΓ mvX8_takeWord ml_7_160 (t := 3) (ci := 8) (av := [.int (2 : Int32)]) (rest := []) (r := none) (σ' := (f_X8_takeWord (2 : Int32) σ)) (T_X8_takeWord (E := fhEn Γ) (d := fhD Γ - 1) hE (by omega) (2 : Int32) σ) (by omega) (by decide +kernel) rfl rfl rfl (Nat.le_of_ble_eq_true rfl) rfl ?_
  show fhW fhYF Γ 42 [(0, .ref v0), (2, .int v2)] [] (f_X8_takeWord (2 : Int32) σ)
  obtain ⟨q4, e1, h⟩ := fhlet_elim h
  rw [← e1]
  refine fhW.blk fhPF fhLL hΓ [(.aload_n 0, 0), (.getfield 36, 0), (.iconst 0, 0), (.aload_n 0, 0), (.getfield 74, 0), (.iconst 1, 1), (.isub, 0)] (pc' := 53) (lv' := [(0, .ref v0), (2, .int v2)]) (st' := [.int ((q4.1 v0 9) - (1 : Int32)), .int (0 : Int32), .ref 3]) (σ' := q4) (by decide +kernel) rfl rfl (by rcases fhiP_or hv0 with rfl | rfl <;> rfl) ?_
  refine fhW.callv hΓ mvX8_takeNumberWithin ml_7_115 (t := 3) (ci := 8) (av := [.int (0 : Int32), .int ((q4.1 v0 9) - (1 : Int32))]) (rest := []) (r := (some (.int (f_X8_takeNumberWithin (0 : Int32) ((q4.1 v0 9) - (1 : Int32)) q4).1))) (σ' := (f_X8_takeNumberWithin (0 : Int32) ((q4.1 v0 9) - (1 : Int32)) q4).2) (T_X8_takeNumberWithin (E := fhEn Γ) (d := fhD Γ - 1) hE (by omega) (0 : Int32) ((q4.1 v0 9) - (1 : Int32)) q4) (by omega) (by decide +kernel) rfl rfl rfl (Nat.le_of_ble_eq_true rfl) rfl ?_
  show fhW fhYF Γ 56 [(0, .ref v0), (2, .int v2)] [.int (f_X8_takeNumberWithin (0 : Int32) ((q4.1 v0 9) - (1 : Int32)) q4).1] (f_X8_takeNumberWithin (0 : Int32) ((q4.1 v0 9) - (1 : Int32)) q4).2
  obtain ⟨q5, e2, h⟩ := fhlet_elim h
  rw [← e2]
  refine fhW.blk fhPF fhLL hΓ [(.istore_n 3, 0), (.aload_n 0, 0), (.getfield 33, 0), (.aload_n 0, 0), (.getfield 77, 0), (.iload_n 2, 0)] (pc' := 66) (lv' := [(3, .int q5.1), (0, .ref v0), (2, .int v2)]) (st' := [.int v2, .int (q5.2.1 v0 10), .ref (v0 + 10)]) (σ' := q5.2) (by decide +kernel) rfl rfl (by rcases fhiP_or hv0 with rfl | rfl <;> rfl) ?_
  refine fhW.callv hΓ mvX2_put ml_7_150 (t := (v0 + 10)) (ci := 2) (av := [.int (q5.2.1 v0 10), .int v2]) (rest := []) (r := none) (σ' := (fcP q5.2 (v0 + 10) (q5.2.1 v0 10) v2)) (T_X2_put (E := fhEn Γ) (d := fhD Γ - 1) hE (by omega) (v0 + 10) (q5.2.1 v0 10) v2 (fhiP_ind (p := fun q => fhiC (q + 10) = true) hv0 rfl rfl) q5.2) (by omega) (by decide +kernel) rfl (fhiC_g (fhiP_ind (p := fun q => fhiC (q + 10) = true) hv0 rfl rfl)) rfl (Nat.le_of_ble_eq_true rfl) rfl ?_
  show fhW fhYF Γ 69 [(3, .int q5.1), (0, .ref v0), (2, .int v2)] [] (fcP q5.2 (v0 + 10) (q5.2.1 v0 10) v2)
  refine fhW.blk fhPF fhLL hΓ [(.aload_n 0, 0), (.dup, 0), (.getfield 77, 0), (.iconst 1, 1), (.iadd, 0), (.putfield 77, 0), (.aload_n 0, 0), (.dup, 0), (.getfield 71, 0), (.iload_n 3, 0), (.aload_n 0, 0), (.getfield 99, 0), (.imul, 0), (.iadd, 0), (.putfield 71, 0), (.aload_n 0, 0), (.dup, 0), (.getfield 99, 0), (.aload_n 0, 0), (.getfield 74, 0), (.imul, 0), (.putfield 99, 0)] (pc' := 107) (lv' := [(3, .int q5.1), (0, .ref v0), (2, .int v2)]) (st' := []) (σ' := (fhI (fhI (fhI (fcP q5.2 (v0 + 10) (q5.2.1 v0 10) v2) v0 10 (((fcP q5.2 (v0 + 10) (q5.2.1 v0 10) v2).1 v0 10) + (1 : Int32))) v0 14 (((fcP q5.2 (v0 + 10) (q5.2.1 v0 10) v2).1 v0 14) + (q5.1 * ((fcP q5.2 (v0 + 10) (q5.2.1 v0 10) v2).1 v0 6)))) v0 6 (((fcP q5.2 (v0 + 10) (q5.2.1 v0 10) v2).1 v0 6) * ((fcP q5.2 (v0 + 10) (q5.2.1 v0 10) v2).1 v0 9)))) (by decide +kernel) rfl rfl (by rcases fhiP_or hv0 with rfl | rfl <;> rfl) ?_
  have e9 := Option.some.inj h
  subst e9
  exact fhW.vret hΓ (by decide +kernel) hk
set_option maxRecDepth 100000 in
set_option maxHeartbeats 4000000 in
theorem L_X7_readGuest_E {Γ : fhX} (hE : fhEok fhYF (fhEn Γ)) (hΓ : fhOk fhYF 7 cX7_readGuest 4 none Γ) (hd : 4 ≤ fhD Γ) (v0 : Nat) (hv0 : fhiP v0 = true) (σ : fhM) (o : fhM) (h : f_X7_readGuest v0 σ = some o) (hk : (fun o => fhRet Γ none o) o) : fhW fhYF Γ 0 [(0, .ref v0)] [] σ := by
  unfold f_X7_readGuest at h
  refine fhW.blk fhPF fhLL hΓ [(.aload_n 0, 0), (.getfield 36, 0), (.getfield 144, 0), (.istore_n 1, 0), (.aload_n 0, 0), (.getfield 36, 0)] (pc' := 12) (lv' := [(1, .int (σ.1 3 8)), (0, .ref v0)]) (st' := [.ref 3]) (σ' := σ) (by decide +kernel) rfl rfl (by rcases fhiP_or hv0 with rfl | rfl <;> rfl) ?_
  refine fhW.callv hΓ mvX8_takeName ml_7_153 (t := 3) (ci := 8) (av := []) (rest := []) (r := (some (.int (f_X8_takeName σ).1))) (σ' := (f_X8_takeName σ).2) (T_X8_takeName (E := fhEn Γ) (d := fhD Γ - 1) hE (by omega) σ) (by omega) (by decide +kernel) rfl rfl rfl (Nat.le_of_ble_eq_true rfl) rfl ?_
  show fhW fhYF Γ 15 [(1, .int (σ.1 3 8)), (0, .ref v0)] [.int (f_X8_takeName σ).1] (f_X8_takeName σ).2
  obtain ⟨q1, e3, h⟩ := fhlet_elim h
  rw [← e3]
  refine fhW.blk fhPF fhLL hΓ [(.istore_n 2, 0), (.aload_n 0, 0), (.iload_n 2, 0)] (pc' := 18) (lv' := [(2, .int q1.1), (1, .int (σ.1 3 8)), (0, .ref v0)]) (st' := [.int q1.1, .ref v0]) (σ' := q1.2) (by decide +kernel) rfl rfl rfl ?_
  obtain ⟨q2, hb1, h⟩ := Option.bind_eq_some_iff.mp h
  refine fhW.callv hΓ mvX7_guestNamed ml_7_156 (t := v0) (ci := 7) (av := [.int q1.1]) (rest := []) (r := (some (.int q2))) (σ' := q1.2) (T_X7_guestNamed (E := fhEn Γ) (d := fhD Γ - 1) hE (by omega) v0 q1.1 hv0 q1.2 hb1) (by omega) (by decide +kernel) rfl (fhiP_g hv0) rfl (Nat.le_of_ble_eq_true rfl) rfl ?_
  show fhW fhYF Γ 21 [(2, .int q1.1), (1, .int (σ.1 3 8)), (0, .ref v0)] [.int q2] q1.2
  refine fhW.blk fhPF fhLL hΓ [(.iconst (-1), -1)] (pc' := 22) (lv' := [(2, .int q1.1), (1, .int (σ.1 3 8)), (0, .ref v0)]) (st' := [.int (-1 : Int32), .int q2]) (σ' := q1.2) (by decide +kernel) rfl rfl rfl ?_
  refine fhW.i_eq hΓ (tgt := 34) (show fhbk _ _ (.if_icmp .eq (12)) _ = true by decide +kernel) (fun hc => ?_) (fun hc => ?_)
  · rw [if_pos hc] at h
    refine fhW.sub (lv' := [(0, .ref v0), (2, .int q1.1)]) [2, 0] rfl ?_
    exact L_X7_readGuest_34 hE hΓ hd v0 q1.1 hv0 q1.2 _ h hk
  · rw [if_neg hc] at h
    refine fhW.blk fhPF fhLL hΓ [(.aload_n 0, 0), (.getfield 36, 0), (.iconst 3, 3), (.iload_n 1, 0)] (pc' := 31) (lv' := [(2, .int q1.1), (1, .int (σ.1 3 8)), (0, .ref v0)]) (st' := [.int (σ.1 3 8), .int (3 : Int32), .ref 3]) (σ' := q1.2) (by decide +kernel) rfl rfl (by rcases fhiP_or hv0 with rfl | rfl <;> rfl) ?_
    refine fhW.callv hΓ mvX8_fail ml_7_67 (t := 3) (ci := 8) (av := [.int (3 : Int32), .int (σ.1 3 8)]) (rest := []) (r := none) (σ' := (f_X8_fail (3 : Int32) (σ.1 3 8) q1.2)) (T_X8_fail (E := fhEn Γ) (d := fhD Γ - 1) hE (by omega) (3 : Int32) (σ.1 3 8) q1.2) (by omega) (by decide +kernel) rfl rfl rfl (Nat.le_of_ble_eq_true rfl) rfl ?_
    show fhW fhYF Γ 34 [(2, .int q1.1), (1, .int (σ.1 3 8)), (0, .ref v0)] [] (f_X8_fail (3 : Int32) (σ.1 3 8) q1.2)
    obtain ⟨q3, e4, h⟩ := fhlet_elim h
    rw [← e4]
    refine fhW.sub (lv' := [(0, .ref v0), (2, .int q1.1)]) [2, 0] rfl ?_
    exact L_X7_readGuest_34 hE hΓ hd v0 q1.1 hv0 q3 _ h hk
set_option maxRecDepth 100000 in
theorem T_X7_readGuest {E : fhE} {d : Nat} (hE : fhEok fhYF E) (hd : 4 ≤ d) (v0 : Nat) (hv0 : fhiP v0 = true) (σ : fhM) {o : fhM} (h : f_X7_readGuest v0 σ = some o) : fhC fhYF E d miX7_readGuest [.ref v0] σ none o := by
  refine fhC.of (y := yX7_readGuest) (cc := cX7_readGuest) (nL := 4) (ret := none) 7 rfl (by decide +kernel) (Nat.le_of_ble_eq_true rfl) ?_
  intro Γ hΓ hR hD hEn
  subst hD; subst hEn
  exact L_X7_readGuest_E hE hΓ hd v0 hv0 σ _ h hR
set_option maxRecDepth 100000 in
set_option maxHeartbeats 4000000 in
theorem L_X7_readBlind_92 {Γ : fhX} (hE : fhEok fhYF (fhEn Γ)) (hΓ : fhOk fhYF 7 cX7_readBlind 4 none Γ) (hd : 3 ≤ fhD Γ) (v0 : Nat) (v1 : Int32) (hv0 : fhiP v0 = true) (σ : fhM) (o : fhM) (h : f_X7_readBlind_92 v0 v1 σ = some o) (hk : (fun o => fhRet Γ none o) o) : fhW fhYF Γ 92 [(0, .ref v0), (1, .int v1)] [] σ := by
  unfold f_X7_readBlind_92 at h
  refine fhW.blk fhPF fhLL hΓ [(.aload_n 0, 0), (.getfield 36, 0), (.iconst 3, 3), (.iload_n 1, 0)] (pc' := 98) (lv' := [(0, .ref v0), (1, .int v1)]) (st' := [.int v1, .int (3 : Int32), .ref 3]) (σ' := σ) (by decide +kernel) rfl rfl (by rcases fhiP_or hv0 with rfl | rfl <;> rfl) ?_
  refine fhW.callv hΓ mvX8_fail ml_7_67 (t := 3) (ci := 8) (av := [.int (3 : Int32), .int v1]) (rest := []) (r := none) (σ' := (f_X8_fail (3 : Int32) v1 σ)) (T_X8_fail (E := fhEn Γ) (d := fhD Γ - 1) hE (by omega) (3 : Int32) v1 σ) (by omega) (by decide +kernel) rfl rfl rfl (Nat.le_of_ble_eq_true rfl) rfl ?_
  show fhW fhYF Γ 101 [(0, .ref v0), (1, .int v1)] [] (f_X8_fail (3 : Int32) v1 σ)
  obtain ⟨q7, e1, h⟩ := fhlet_elim h
  rw [← e1]
  have e9 := Option.some.inj h
  subst e9
  exact fhW.vret hΓ (by decide +kernel) hk
set_option maxRecDepth 100000 in
set_option maxHeartbeats 4000000 in
theorem L_X7_readBlind_34 {Γ : fhX} (hE : fhEok fhYF (fhEn Γ)) (hΓ : fhOk fhYF 7 cX7_readBlind 4 none Γ) (hd : 3 ≤ fhD Γ) (v0 : Nat) (v2 : Int32) (hv0 : fhiP v0 = true) (σ : fhM) (o : fhM) (h : f_X7_readBlind_34 v0 v2 σ = some o) (hk : (fun o => fhRet Γ none o) o) : fhW fhYF Γ 34 [(0, .ref v0), (2, .int v2)] [] σ := by
  unfold f_X7_readBlind_34 at h
  refine fhW.blk fhPF fhLL hΓ [(.aload_n 0, 0), (.getfield 36, 0), (.iconst 4, 4)] (pc' := 39) (lv' := [(0, .ref v0), (2, .int v2)]) (st' := [.int (4 : Int32), .ref 3]) (σ' := σ) (by decide +kernel) rfl rfl (by rcases fhiP_or hv0 with rfl | rfl <;> rfl) ?_
  refine fhW.callv hΓ mvX8_takeWord ml_7_160 (t := 3) (ci := 8) (av := [.int (4 : Int32)]) (rest := []) (r := none) (σ' := (f_X8_takeWord (4 : Int32) σ)) (T_X8_takeWord (E := fhEn Γ) (d := fhD Γ - 1) hE (by omega) (4 : Int32) σ) (by omega) (by decide +kernel) rfl rfl rfl (Nat.le_of_ble_eq_true rfl) rfl ?_
  show fhW fhYF Γ 42 [(0, .ref v0), (2, .int v2)] [] (f_X8_takeWord (4 : Int32) σ)
  obtain ⟨q4, e2, h⟩ := fhlet_elim h
  rw [← e2]
  refine fhW.blk fhPF fhLL hΓ [(.aload_n 0, 0), (.getfield 36, 0), (.getfield 144, 0), (.istore_n 1, 0), (.aload_n 0, 0), (.aload_n 0, 0), (.getfield 36, 0)] (pc' := 55) (lv' := [(1, .int (q4.1 3 8)), (0, .ref v0), (2, .int v2)]) (st' := [.ref 3, .ref v0]) (σ' := q4) (by decide +kernel) rfl rfl (by rcases fhiP_or hv0 with rfl | rfl <;> rfl) ?_
  refine fhW.callv hΓ mvX8_takeName ml_7_153 (t := 3) (ci := 8) (av := []) (rest := [.ref v0]) (r := (some (.int (f_X8_takeName q4).1))) (σ' := (f_X8_takeName q4).2) (T_X8_takeName (E := fhEn Γ) (d := fhD Γ - 1) hE (by omega) q4) (by omega) (by decide +kernel) rfl rfl rfl (Nat.le_of_ble_eq_true rfl) rfl ?_
  show fhW fhYF Γ 58 [(1, .int (q4.1 3 8)), (0, .ref v0), (2, .int v2)] [.int (f_X8_takeName q4).1, .ref v0] (f_X8_takeName q4).2
  obtain ⟨q5, e3, h⟩ := fhlet_elim h
  rw [← e3]
  obtain ⟨q6, hb1, h⟩ := Option.bind_eq_some_iff.mp h
  refine fhW.callv hΓ mvX7_guestNamed ml_7_156 (t := v0) (ci := 7) (av := [.int q5.1]) (rest := []) (r := (some (.int q6))) (σ' := q5.2) (T_X7_guestNamed (E := fhEn Γ) (d := fhD Γ - 1) hE (by omega) v0 q5.1 hv0 q5.2 hb1) (by omega) (by decide +kernel) rfl (fhiP_g hv0) rfl (Nat.le_of_ble_eq_true rfl) rfl ?_
  show fhW fhYF Γ 61 [(1, .int (q4.1 3 8)), (0, .ref v0), (2, .int v2)] [.int q6] q5.2
  refine fhW.blk fhPF fhLL hΓ [(.istore_n 3, 0), (.iload_n 2, 0), (.iconst (-1), -1)] (pc' := 64) (lv' := [(3, .int q6), (1, .int (q4.1 3 8)), (0, .ref v0), (2, .int v2)]) (st' := [.int (-1 : Int32), .int v2]) (σ' := q5.2) (by decide +kernel) rfl rfl rfl ?_
  refine fhW.i_eq hΓ (tgt := 92) (show fhbk _ _ (.if_icmp .eq (28)) _ = true by decide +kernel) (fun hc => ?_) (fun hc => ?_)
  · rw [if_pos hc] at h
    refine fhW.sub (lv' := [(0, .ref v0), (1, .int (q4.1 3 8))]) [2, 1] rfl ?_
    exact L_X7_readBlind_92 hE hΓ hd v0 (q4.1 3 8) hv0 q5.2 _ h hk
  · rw [if_neg hc] at h
    refine fhW.blk fhPF fhLL hΓ [(.iload_n 3, 0), (.iconst (-1), -1)] (pc' := 69) (lv' := [(3, .int q6), (1, .int (q4.1 3 8)), (0, .ref v0), (2, .int v2)]) (st' := [.int (-1 : Int32), .int q6]) (σ' := q5.2) (by decide +kernel) rfl rfl rfl ?_
    refine fhW.i_eq hΓ (tgt := 92) (show fhbk _ _ (.if_icmp .eq (23)) _ = true by decide +kernel) (fun hc => ?_) (fun hc => ?_)
    · rw [if_pos hc] at h
      refine fhW.sub (lv' := [(0, .ref v0), (1, .int (q4.1 3 8))]) [2, 1] rfl ?_
      exact L_X7_readBlind_92 hE hΓ hd v0 (q4.1 3 8) hv0 q5.2 _ h hk
    · rw [if_neg hc] at h
      refine fhW.blk fhPF fhLL hΓ [(.iload_n 2, 0), (.iload_n 3, 0)] (pc' := 74) (lv' := [(3, .int q6), (1, .int (q4.1 3 8)), (0, .ref v0), (2, .int v2)]) (st' := [.int q6, .int v2]) (σ' := q5.2) (by decide +kernel) rfl rfl rfl ?_
      refine fhW.i_eq hΓ (tgt := 92) (show fhbk _ _ (.if_icmp .eq (18)) _ = true by decide +kernel) (fun hc => ?_) (fun hc => ?_)
      · rw [if_pos hc] at h
        refine fhW.sub (lv' := [(0, .ref v0), (1, .int (q4.1 3 8))]) [2, 1] rfl ?_
        exact L_X7_readBlind_92 hE hΓ hd v0 (q4.1 3 8) hv0 q5.2 _ h hk
      · rw [if_neg hc] at h
        refine fhW.blk fhPF fhLL hΓ [(.aload_n 0, 0), (.getfield 23, 0), (.iload_n 2, 0)] (pc' := 82) (lv' := [(3, .int q6), (1, .int (q4.1 3 8)), (0, .ref v0), (2, .int v2)]) (st' := [.int v2, .ref (v0 + 4)]) (σ' := q5.2) (by decide +kernel) rfl rfl (by rcases fhiP_or hv0 with rfl | rfl <;> rfl) ?_
        refine fhW.callv hΓ mvX2_get ml_7_163 (t := (v0 + 4)) (ci := 2) (av := [.int v2]) (rest := []) (r := (some (.int (fcG q5.2 (v0 + 4) v2)))) (σ' := q5.2) (T_X2_get (E := fhEn Γ) (d := fhD Γ - 1) hE (by omega) (v0 + 4) v2 (fhiP_ind (p := fun q => fhiC (q + 4) = true) hv0 rfl rfl) q5.2) (by omega) (by decide +kernel) rfl (fhiC_g (fhiP_ind (p := fun q => fhiC (q + 4) = true) hv0 rfl rfl)) rfl (Nat.le_of_ble_eq_true rfl) rfl ?_
        show fhW fhYF Γ 85 [(3, .int q6), (1, .int (q4.1 3 8)), (0, .ref v0), (2, .int v2)] [.int (fcG q5.2 (v0 + 4) v2)] q5.2
        refine fhW.blk fhPF fhLL hΓ [(.iload_n 3, 0), (.ishr, 0), (.iconst 1, 1), (.iand, 0)] (pc' := 89) (lv' := [(3, .int q6), (1, .int (q4.1 3 8)), (0, .ref v0), (2, .int v2)]) (st' := [.int (((fcG q5.2 (v0 + 4) v2) >>> (q6 &&& 31)) &&& (1 : Int32))]) (σ' := q5.2) (by decide +kernel) rfl rfl rfl ?_
        refine fhW.z_eq hΓ (tgt := 102) (show fhbk _ _ (.ifCond .eq (13)) _ = true by decide +kernel) (fun hc => ?_) (fun hc => ?_)
        · rw [if_pos hc] at h
          refine fhW.blk fhPF fhLL hΓ [(.aload_n 0, 0), (.getfield 23, 0), (.iload_n 2, 0), (.aload_n 0, 0), (.getfield 23, 0), (.iload_n 2, 0)] (pc' := 112) (lv' := [(3, .int q6), (1, .int (q4.1 3 8)), (0, .ref v0), (2, .int v2)]) (st' := [.int v2, .ref (v0 + 4), .int v2, .ref (v0 + 4)]) (σ' := q5.2) (by decide +kernel) rfl rfl (by rcases fhiP_or hv0 with rfl | rfl <;> rfl) ?_
          refine fhW.callv hΓ mvX2_get ml_7_163 (t := (v0 + 4)) (ci := 2) (av := [.int v2]) (rest := [.int v2, .ref (v0 + 4)]) (r := (some (.int (fcG q5.2 (v0 + 4) v2)))) (σ' := q5.2) (T_X2_get (E := fhEn Γ) (d := fhD Γ - 1) hE (by omega) (v0 + 4) v2 (fhiP_ind (p := fun q => fhiC (q + 4) = true) hv0 rfl rfl) q5.2) (by omega) (by decide +kernel) rfl (fhiC_g (fhiP_ind (p := fun q => fhiC (q + 4) = true) hv0 rfl rfl)) rfl (Nat.le_of_ble_eq_true rfl) rfl ?_
          show fhW fhYF Γ 115 [(3, .int q6), (1, .int (q4.1 3 8)), (0, .ref v0), (2, .int v2)] [.int (fcG q5.2 (v0 + 4) v2), .int v2, .ref (v0 + 4)] q5.2
          refine fhW.blk fhPF fhLL hΓ [(.iconst 1, 1), (.iload_n 3, 0), (.ishl, 0), (.ior, 0)] (pc' := 119) (lv' := [(3, .int q6), (1, .int (q4.1 3 8)), (0, .ref v0), (2, .int v2)]) (st' := [.int ((fcG q5.2 (v0 + 4) v2) ||| ((1 : Int32) <<< (q6 &&& 31))), .int v2, .ref (v0 + 4)]) (σ' := q5.2) (by decide +kernel) rfl rfl rfl ?_
          refine fhW.callv hΓ mvX2_put ml_7_150 (t := (v0 + 4)) (ci := 2) (av := [.int v2, .int ((fcG q5.2 (v0 + 4) v2) ||| ((1 : Int32) <<< (q6 &&& 31)))]) (rest := []) (r := none) (σ' := (fcP q5.2 (v0 + 4) v2 ((fcG q5.2 (v0 + 4) v2) ||| ((1 : Int32) <<< (q6 &&& 31))))) (T_X2_put (E := fhEn Γ) (d := fhD Γ - 1) hE (by omega) (v0 + 4) v2 ((fcG q5.2 (v0 + 4) v2) ||| ((1 : Int32) <<< (q6 &&& 31))) (fhiP_ind (p := fun q => fhiC (q + 4) = true) hv0 rfl rfl) q5.2) (by omega) (by decide +kernel) rfl (fhiC_g (fhiP_ind (p := fun q => fhiC (q + 4) = true) hv0 rfl rfl)) rfl (Nat.le_of_ble_eq_true rfl) rfl ?_
          show fhW fhYF Γ 122 [(3, .int q6), (1, .int (q4.1 3 8)), (0, .ref v0), (2, .int v2)] [] (fcP q5.2 (v0 + 4) v2 ((fcG q5.2 (v0 + 4) v2) ||| ((1 : Int32) <<< (q6 &&& 31))))
          have e9 := Option.some.inj h
          subst e9
          exact fhW.vret hΓ (by decide +kernel) hk
        · rw [if_neg hc] at h
          refine fhW.sub (lv' := [(0, .ref v0), (1, .int (q4.1 3 8))]) [2, 1] rfl ?_
          exact L_X7_readBlind_92 hE hΓ hd v0 (q4.1 3 8) hv0 q5.2 _ h hk
set_option maxRecDepth 100000 in
set_option maxHeartbeats 4000000 in
theorem L_X7_readBlind_E {Γ : fhX} (hE : fhEok fhYF (fhEn Γ)) (hΓ : fhOk fhYF 7 cX7_readBlind 4 none Γ) (hd : 3 ≤ fhD Γ) (v0 : Nat) (hv0 : fhiP v0 = true) (σ : fhM) (o : fhM) (h : f_X7_readBlind v0 σ = some o) (hk : (fun o => fhRet Γ none o) o) : fhW fhYF Γ 0 [(0, .ref v0)] [] σ := by
  unfold f_X7_readBlind at h
  refine fhW.blk fhPF fhLL hΓ [(.aload_n 0, 0), (.getfield 36, 0), (.getfield 144, 0), (.istore_n 1, 0), (.aload_n 0, 0), (.aload_n 0, 0), (.getfield 36, 0)] (pc' := 13) (lv' := [(1, .int (σ.1 3 8)), (0, .ref v0)]) (st' := [.ref 3, .ref v0]) (σ' := σ) (by decide +kernel) rfl rfl (by rcases fhiP_or hv0 with rfl | rfl <;> rfl) ?_
  refine fhW.callv hΓ mvX8_takeName ml_7_153 (t := 3) (ci := 8) (av := []) (rest := [.ref v0]) (r := (some (.int (f_X8_takeName σ).1))) (σ' := (f_X8_takeName σ).2) (T_X8_takeName (E := fhEn Γ) (d := fhD Γ - 1) hE (by omega) σ) (by omega) (by decide +kernel) rfl rfl rfl (Nat.le_of_ble_eq_true rfl) rfl ?_
  show fhW fhYF Γ 16 [(1, .int (σ.1 3 8)), (0, .ref v0)] [.int (f_X8_takeName σ).1, .ref v0] (f_X8_takeName σ).2
  obtain ⟨q1, e4, h⟩ := fhlet_elim h
  rw [← e4]
  obtain ⟨q2, hb2, h⟩ := Option.bind_eq_some_iff.mp h
  refine fhW.callv hΓ mvX7_guestNamed ml_7_156 (t := v0) (ci := 7) (av := [.int q1.1]) (rest := []) (r := (some (.int q2))) (σ' := q1.2) (T_X7_guestNamed (E := fhEn Γ) (d := fhD Γ - 1) hE (by omega) v0 q1.1 hv0 q1.2 hb2) (by omega) (by decide +kernel) rfl (fhiP_g hv0) rfl (Nat.le_of_ble_eq_true rfl) rfl ?_
  show fhW fhYF Γ 19 [(1, .int (σ.1 3 8)), (0, .ref v0)] [.int q2] q1.2
  refine fhW.blk fhPF fhLL hΓ [(.istore_n 2, 0), (.iload_n 2, 0), (.iconst (-1), -1)] (pc' := 22) (lv' := [(2, .int q2), (1, .int (σ.1 3 8)), (0, .ref v0)]) (st' := [.int (-1 : Int32), .int q2]) (σ' := q1.2) (by decide +kernel) rfl rfl rfl ?_
  refine fhW.i_ne hΓ (tgt := 34) (show fhbk _ _ (.if_icmp .ne (12)) _ = true by decide +kernel) (fun hc => ?_) (fun hc => ?_)
  · rw [if_neg hc] at h
    refine fhW.sub (lv' := [(0, .ref v0), (2, .int q2)]) [2, 0] rfl ?_
    exact L_X7_readBlind_34 hE hΓ hd v0 q2 hv0 q1.2 _ h hk
  · rw [if_pos hc] at h
    refine fhW.blk fhPF fhLL hΓ [(.aload_n 0, 0), (.getfield 36, 0), (.iconst 3, 3), (.iload_n 1, 0)] (pc' := 31) (lv' := [(2, .int q2), (1, .int (σ.1 3 8)), (0, .ref v0)]) (st' := [.int (σ.1 3 8), .int (3 : Int32), .ref 3]) (σ' := q1.2) (by decide +kernel) rfl rfl (by rcases fhiP_or hv0 with rfl | rfl <;> rfl) ?_
    refine fhW.callv hΓ mvX8_fail ml_7_67 (t := 3) (ci := 8) (av := [.int (3 : Int32), .int (σ.1 3 8)]) (rest := []) (r := none) (σ' := (f_X8_fail (3 : Int32) (σ.1 3 8) q1.2)) (T_X8_fail (E := fhEn Γ) (d := fhD Γ - 1) hE (by omega) (3 : Int32) (σ.1 3 8) q1.2) (by omega) (by decide +kernel) rfl rfl rfl (Nat.le_of_ble_eq_true rfl) rfl ?_
    show fhW fhYF Γ 34 [(2, .int q2), (1, .int (σ.1 3 8)), (0, .ref v0)] [] (f_X8_fail (3 : Int32) (σ.1 3 8) q1.2)
    obtain ⟨q3, e5, h⟩ := fhlet_elim h
    rw [← e5]
    refine fhW.sub (lv' := [(0, .ref v0), (2, .int q2)]) [2, 0] rfl ?_
    exact L_X7_readBlind_34 hE hΓ hd v0 q2 hv0 q3 _ h hk
set_option maxRecDepth 100000 in
theorem T_X7_readBlind {E : fhE} {d : Nat} (hE : fhEok fhYF E) (hd : 3 ≤ d) (v0 : Nat) (hv0 : fhiP v0 = true) (σ : fhM) {o : fhM} (h : f_X7_readBlind v0 σ = some o) : fhC fhYF E d miX7_readBlind [.ref v0] σ none o := by
  refine fhC.of (y := yX7_readBlind) (cc := cX7_readBlind) (nL := 4) (ret := none) 7 rfl (by decide +kernel) (Nat.le_of_ble_eq_true rfl) ?_
  intro Γ hΓ hR hD hEn
  subst hD; subst hEn
  exact L_X7_readBlind_E hE hΓ hd v0 hv0 σ _ h hR
set_option maxRecDepth 100000 in
set_option maxHeartbeats 4000000 in
theorem L_X5_begin_E {Γ : fhX} (hE : fhEok fhYF (fhEn Γ)) (hΓ : fhOk fhYF 5 cX5_begin 4 none Γ) (hd : 0 ≤ fhD Γ) (v1 : Nat) (v2 : Nat) (v3 : Int32) (hv1 : fhiK v1 = true) (hv2 : fhiP v2 = true) (σ : fhM) (o : fhM) (h : f_X5_begin v1 v2 v3 σ = some o) (hk : (fun o => fhRet Γ none o) o) : fhW fhYF Γ 0 [(0, .ref 9), (1, .ref v1), (2, .ref v2), (3, .int v3)] [] σ := by
  unfold f_X5_begin at h
  obtain ⟨hg1, h⟩ := fhif h
  refine fhW.blk fhPF fhLL hΓ [(.aload_n 0, 0), (.aload_n 1, 0), (.putfield 15, 0), (.aload_n 0, 0), (.aload_n 2, 0), (.putfield 45, 0), (.aload_n 0, 0), (.iload_n 3, 0), (.putfield 49, 0), (.aload_n 0, 0), (.iconst 0, 0), (.putfield 53, 0)] (pc' := 20) (lv' := [(0, .ref 9), (1, .ref v1), (2, .ref v2), (3, .int v3)]) (st' := []) (σ' := (fhI (fhI (fhR (fhR σ 9 1 v1) 9 2 v2) 9 3 v3) 9 4 (0 : Int32))) (by decide +kernel) rfl rfl hg1 ?_
  have e9 := Option.some.inj h
  subst e9
  exact fhW.vret hΓ (by decide +kernel) hk
set_option maxRecDepth 100000 in
theorem T_X5_begin {E : fhE} {d : Nat} (hE : fhEok fhYF E) (hd : 0 ≤ d) (v1 : Nat) (v2 : Nat) (v3 : Int32) (hv1 : fhiK v1 = true) (hv2 : fhiP v2 = true) (σ : fhM) {o : fhM} (h : f_X5_begin v1 v2 v3 σ = some o) : fhC fhYF E d miX5_begin [.ref 9, .ref v1, .ref v2, .int v3] σ none o := by
  refine fhC.of (y := yX5_begin) (cc := cX5_begin) (nL := 4) (ret := none) 5 rfl (by decide +kernel) (Nat.le_of_ble_eq_true rfl) ?_
  intro Γ hΓ hR hD hEn
  subst hD; subst hEn
  exact L_X5_begin_E hE hΓ hd v1 v2 v3 hv1 hv2 σ _ h hR
set_option maxRecDepth 100000 in
set_option maxHeartbeats 4000000 in
theorem L_X7_noteTest_E {Γ : fhX} (hE : fhEok fhYF (fhEn Γ)) (hΓ : fhOk fhYF 7 cX7_noteTest 3 none Γ) (hd : 1 ≤ fhD Γ) (v0 : Nat) (v1 : Int32) (v2 : Int32) (hv0 : fhiP v0 = true) (σ : fhM) (o : fhM) (h : f_X7_noteTest v0 v1 v2 σ = o) (hk : (fun o => fhRet Γ none o) o) : fhW fhYF Γ 0 [(0, .ref v0), (1, .int v1), (2, .int v2)] [] σ := by
  unfold f_X7_noteTest at h
  refine fhW.blk fhPF fhLL hΓ [(.iload_n 1, 0), (.iconst 5, 5)] (pc' := 2) (lv' := [(0, .ref v0), (1, .int v1), (2, .int v2)]) (st' := [.int (5 : Int32), .int v1]) (σ' := σ) (by decide +kernel) rfl rfl rfl ?_
  refine fhW.i_ne hΓ (tgt := 54) (show fhbk _ _ (.if_icmp .ne (52)) _ = true by decide +kernel) (fun hc => ?_) (fun hc => ?_)
  · rw [if_neg hc] at h
    refine fhW.blk fhPF fhLL hΓ [(.aload_n 0, 0), (.getfield 30, 0), (.iconst 2, 2), (.aload_n 0, 0), (.getfield 93, 0), (.imul, 0), (.iload_n 2, 0)] (pc' := 65) (lv' := [(0, .ref v0), (1, .int v1), (2, .int v2)]) (st' := [.int v2, .int ((2 : Int32) * (σ.1 v0 12)), .ref (v0 + 8)]) (σ' := σ) (by decide +kernel) rfl rfl (by rcases fhiP_or hv0 with rfl | rfl <;> rfl) ?_
    refine fhW.callv hΓ mvX2_put ml_7_150 (t := (v0 + 8)) (ci := 2) (av := [.int ((2 : Int32) * (σ.1 v0 12)), .int v2]) (rest := []) (r := none) (σ' := (fcP σ (v0 + 8) ((2 : Int32) * (σ.1 v0 12)) v2)) (T_X2_put (E := fhEn Γ) (d := fhD Γ - 1) hE (by omega) (v0 + 8) ((2 : Int32) * (σ.1 v0 12)) v2 (fhiP_ind (p := fun q => fhiC (q + 8) = true) hv0 rfl rfl) σ) (by omega) (by decide +kernel) rfl (fhiC_g (fhiP_ind (p := fun q => fhiC (q + 8) = true) hv0 rfl rfl)) rfl (Nat.le_of_ble_eq_true rfl) rfl ?_
    show fhW fhYF Γ 68 [(0, .ref v0), (1, .int v1), (2, .int v2)] [] (fcP σ (v0 + 8) ((2 : Int32) * (σ.1 v0 12)) v2)
    refine fhW.blk fhPF fhLL hΓ [(.aload_n 0, 0), (.getfield 30, 0), (.iconst 2, 2), (.aload_n 0, 0), (.getfield 93, 0), (.imul, 0), (.iconst 1, 1), (.iadd, 0), (.aload_n 0, 0), (.getfield 12, 0), (.getfield 102, 0)] (pc' := 87) (lv' := [(0, .ref v0), (1, .int v1), (2, .int v2)]) (st' := [.int ((fcP σ (v0 + 8) ((2 : Int32) * (σ.1 v0 12)) v2).1 (v0 + 1) 1), .int (((2 : Int32) * ((fcP σ (v0 + 8) ((2 : Int32) * (σ.1 v0 12)) v2).1 v0 12)) + (1 : Int32)), .ref (v0 + 8)]) (σ' := (fcP σ (v0 + 8) ((2 : Int32) * (σ.1 v0 12)) v2)) (by decide +kernel) rfl rfl (by rcases fhiP_or hv0 with rfl | rfl <;> rfl) ?_
    refine fhW.callv hΓ mvX2_put ml_7_150 (t := (v0 + 8)) (ci := 2) (av := [.int (((2 : Int32) * ((fcP σ (v0 + 8) ((2 : Int32) * (σ.1 v0 12)) v2).1 v0 12)) + (1 : Int32)), .int ((fcP σ (v0 + 8) ((2 : Int32) * (σ.1 v0 12)) v2).1 (v0 + 1) 1)]) (rest := []) (r := none) (σ' := (fcP (fcP σ (v0 + 8) ((2 : Int32) * (σ.1 v0 12)) v2) (v0 + 8) (((2 : Int32) * ((fcP σ (v0 + 8) ((2 : Int32) * (σ.1 v0 12)) v2).1 v0 12)) + (1 : Int32)) ((fcP σ (v0 + 8) ((2 : Int32) * (σ.1 v0 12)) v2).1 (v0 + 1) 1))) (T_X2_put (E := fhEn Γ) (d := fhD Γ - 1) hE (by omega) (v0 + 8) (((2 : Int32) * ((fcP σ (v0 + 8) ((2 : Int32) * (σ.1 v0 12)) v2).1 v0 12)) + (1 : Int32)) ((fcP σ (v0 + 8) ((2 : Int32) * (σ.1 v0 12)) v2).1 (v0 + 1) 1) (fhiP_ind (p := fun q => fhiC (q + 8) = true) hv0 rfl rfl) (fcP σ (v0 + 8) ((2 : Int32) * (σ.1 v0 12)) v2)) (by omega) (by decide +kernel) rfl (fhiC_g (fhiP_ind (p := fun q => fhiC (q + 8) = true) hv0 rfl rfl)) rfl (Nat.le_of_ble_eq_true rfl) rfl ?_
    show fhW fhYF Γ 90 [(0, .ref v0), (1, .int v1), (2, .int v2)] [] (fcP (fcP σ (v0 + 8) ((2 : Int32) * (σ.1 v0 12)) v2) (v0 + 8) (((2 : Int32) * ((fcP σ (v0 + 8) ((2 : Int32) * (σ.1 v0 12)) v2).1 v0 12)) + (1 : Int32)) ((fcP σ (v0 + 8) ((2 : Int32) * (σ.1 v0 12)) v2).1 (v0 + 1) 1))
    refine fhW.blk fhPF fhLL hΓ [(.aload_n 0, 0), (.dup, 0), (.getfield 93, 0), (.iconst 1, 1), (.iadd, 0), (.putfield 93, 0)] (pc' := 100) (lv' := [(0, .ref v0), (1, .int v1), (2, .int v2)]) (st' := []) (σ' := (fhI (fcP (fcP σ (v0 + 8) ((2 : Int32) * (σ.1 v0 12)) v2) (v0 + 8) (((2 : Int32) * ((fcP σ (v0 + 8) ((2 : Int32) * (σ.1 v0 12)) v2).1 v0 12)) + (1 : Int32)) ((fcP σ (v0 + 8) ((2 : Int32) * (σ.1 v0 12)) v2).1 (v0 + 1) 1)) v0 12 (((fcP (fcP σ (v0 + 8) ((2 : Int32) * (σ.1 v0 12)) v2) (v0 + 8) (((2 : Int32) * ((fcP σ (v0 + 8) ((2 : Int32) * (σ.1 v0 12)) v2).1 v0 12)) + (1 : Int32)) ((fcP σ (v0 + 8) ((2 : Int32) * (σ.1 v0 12)) v2).1 (v0 + 1) 1)).1 v0 12) + (1 : Int32)))) (by decide +kernel) rfl rfl (by rcases fhiP_or hv0 with rfl | rfl <;> rfl) ?_
    subst h
    exact fhW.vret hΓ (by decide +kernel) hk
  · rw [if_pos hc] at h
    refine fhW.blk fhPF fhLL hΓ [(.aload_n 0, 0), (.getfield 27, 0), (.iconst 2, 2), (.aload_n 0, 0), (.getfield 90, 0), (.imul, 0), (.iload_n 2, 0)] (pc' := 16) (lv' := [(0, .ref v0), (1, .int v1), (2, .int v2)]) (st' := [.int v2, .int ((2 : Int32) * (σ.1 v0 11)), .ref (v0 + 6)]) (σ' := σ) (by decide +kernel) rfl rfl (by rcases fhiP_or hv0 with rfl | rfl <;> rfl) ?_
    refine fhW.callv hΓ mvX2_put ml_7_150 (t := (v0 + 6)) (ci := 2) (av := [.int ((2 : Int32) * (σ.1 v0 11)), .int v2]) (rest := []) (r := none) (σ' := (fcP σ (v0 + 6) ((2 : Int32) * (σ.1 v0 11)) v2)) (T_X2_put (E := fhEn Γ) (d := fhD Γ - 1) hE (by omega) (v0 + 6) ((2 : Int32) * (σ.1 v0 11)) v2 (fhiP_ind (p := fun q => fhiC (q + 6) = true) hv0 rfl rfl) σ) (by omega) (by decide +kernel) rfl (fhiC_g (fhiP_ind (p := fun q => fhiC (q + 6) = true) hv0 rfl rfl)) rfl (Nat.le_of_ble_eq_true rfl) rfl ?_
    show fhW fhYF Γ 19 [(0, .ref v0), (1, .int v1), (2, .int v2)] [] (fcP σ (v0 + 6) ((2 : Int32) * (σ.1 v0 11)) v2)
    refine fhW.blk fhPF fhLL hΓ [(.aload_n 0, 0), (.getfield 27, 0), (.iconst 2, 2), (.aload_n 0, 0), (.getfield 90, 0), (.imul, 0), (.iconst 1, 1), (.iadd, 0), (.aload_n 0, 0), (.getfield 12, 0), (.getfield 102, 0)] (pc' := 38) (lv' := [(0, .ref v0), (1, .int v1), (2, .int v2)]) (st' := [.int ((fcP σ (v0 + 6) ((2 : Int32) * (σ.1 v0 11)) v2).1 (v0 + 1) 1), .int (((2 : Int32) * ((fcP σ (v0 + 6) ((2 : Int32) * (σ.1 v0 11)) v2).1 v0 11)) + (1 : Int32)), .ref (v0 + 6)]) (σ' := (fcP σ (v0 + 6) ((2 : Int32) * (σ.1 v0 11)) v2)) (by decide +kernel) rfl rfl (by rcases fhiP_or hv0 with rfl | rfl <;> rfl) ?_
    refine fhW.callv hΓ mvX2_put ml_7_150 (t := (v0 + 6)) (ci := 2) (av := [.int (((2 : Int32) * ((fcP σ (v0 + 6) ((2 : Int32) * (σ.1 v0 11)) v2).1 v0 11)) + (1 : Int32)), .int ((fcP σ (v0 + 6) ((2 : Int32) * (σ.1 v0 11)) v2).1 (v0 + 1) 1)]) (rest := []) (r := none) (σ' := (fcP (fcP σ (v0 + 6) ((2 : Int32) * (σ.1 v0 11)) v2) (v0 + 6) (((2 : Int32) * ((fcP σ (v0 + 6) ((2 : Int32) * (σ.1 v0 11)) v2).1 v0 11)) + (1 : Int32)) ((fcP σ (v0 + 6) ((2 : Int32) * (σ.1 v0 11)) v2).1 (v0 + 1) 1))) (T_X2_put (E := fhEn Γ) (d := fhD Γ - 1) hE (by omega) (v0 + 6) (((2 : Int32) * ((fcP σ (v0 + 6) ((2 : Int32) * (σ.1 v0 11)) v2).1 v0 11)) + (1 : Int32)) ((fcP σ (v0 + 6) ((2 : Int32) * (σ.1 v0 11)) v2).1 (v0 + 1) 1) (fhiP_ind (p := fun q => fhiC (q + 6) = true) hv0 rfl rfl) (fcP σ (v0 + 6) ((2 : Int32) * (σ.1 v0 11)) v2)) (by omega) (by decide +kernel) rfl (fhiC_g (fhiP_ind (p := fun q => fhiC (q + 6) = true) hv0 rfl rfl)) rfl (Nat.le_of_ble_eq_true rfl) rfl ?_
    show fhW fhYF Γ 41 [(0, .ref v0), (1, .int v1), (2, .int v2)] [] (fcP (fcP σ (v0 + 6) ((2 : Int32) * (σ.1 v0 11)) v2) (v0 + 6) (((2 : Int32) * ((fcP σ (v0 + 6) ((2 : Int32) * (σ.1 v0 11)) v2).1 v0 11)) + (1 : Int32)) ((fcP σ (v0 + 6) ((2 : Int32) * (σ.1 v0 11)) v2).1 (v0 + 1) 1))
    refine fhW.blk fhPF fhLL hΓ [(.aload_n 0, 0), (.dup, 0), (.getfield 90, 0), (.iconst 1, 1), (.iadd, 0), (.putfield 90, 0)] (pc' := 51) (lv' := [(0, .ref v0), (1, .int v1), (2, .int v2)]) (st' := []) (σ' := (fhI (fcP (fcP σ (v0 + 6) ((2 : Int32) * (σ.1 v0 11)) v2) (v0 + 6) (((2 : Int32) * ((fcP σ (v0 + 6) ((2 : Int32) * (σ.1 v0 11)) v2).1 v0 11)) + (1 : Int32)) ((fcP σ (v0 + 6) ((2 : Int32) * (σ.1 v0 11)) v2).1 (v0 + 1) 1)) v0 11 (((fcP (fcP σ (v0 + 6) ((2 : Int32) * (σ.1 v0 11)) v2) (v0 + 6) (((2 : Int32) * ((fcP σ (v0 + 6) ((2 : Int32) * (σ.1 v0 11)) v2).1 v0 11)) + (1 : Int32)) ((fcP σ (v0 + 6) ((2 : Int32) * (σ.1 v0 11)) v2).1 (v0 + 1) 1)).1 v0 11) + (1 : Int32)))) (by decide +kernel) rfl rfl (by rcases fhiP_or hv0 with rfl | rfl <;> rfl) ?_
    refine fhW.goto hΓ (off := 49) (tgt := 100) (by decide +kernel) ?_
    subst h
    exact fhW.vret hΓ (by decide +kernel) hk
set_option maxRecDepth 100000 in
theorem T_X7_noteTest {E : fhE} {d : Nat} (hE : fhEok fhYF E) (hd : 1 ≤ d) (v0 : Nat) (v1 : Int32) (v2 : Int32) (hv0 : fhiP v0 = true) (σ : fhM) : fhC fhYF E d miX7_noteTest [.ref v0, .int v1, .int v2] σ none (f_X7_noteTest v0 v1 v2 σ) := by
  refine fhC.of (y := yX7_noteTest) (cc := cX7_noteTest) (nL := 3) (ret := none) 7 rfl (by decide +kernel) (Nat.le_of_ble_eq_true rfl) ?_
  intro Γ hΓ hR hD hEn
  subst hD; subst hEn
  exact L_X7_noteTest_E hE hΓ hd v0 v1 v2 hv0 σ _ rfl hR
set_option maxRecDepth 100000 in
set_option maxHeartbeats 4000000 in
theorem L_X8_isSign_E {Γ : fhX} (hE : fhEok fhYF (fhEn Γ)) (hΓ : fhOk fhYF 8 cX8_isSign 2 (some .boolean) Γ) (hd : 0 ≤ fhD Γ) (v1 : Int32)  (σ : fhM) (o : Bool) (h : f_X8_isSign v1 σ = o) (hk : (fun o => fhRet Γ (some (.int (fhb o))) σ) o) : fhW fhYF Γ 0 [(0, .ref 3), (1, .int v1)] [] σ := by
  unfold f_X8_isSign at h
  refine fhW.blk fhPF fhLL hΓ [(.aload_n 0, 0), (.getfield 75, 0), (.iconst 3, 3)] (pc' := 5) (lv' := [(0, .ref 3), (1, .int v1)]) (st' := [.int (3 : Int32), .int (σ.1 3 4)]) (σ' := σ) (by decide +kernel) rfl rfl rfl ?_
  refine fhW.i_ne hΓ (tgt := 20) (show fhbk _ _ (.if_icmp .ne (15)) _ = true by decide +kernel) (fun hc => ?_) (fun hc => ?_)
  · rw [if_neg hc] at h
    refine fhW.blk fhPF fhLL hΓ [(.iconst 0, 0)] (pc' := 21) (lv' := [(0, .ref 3), (1, .int v1)]) (st' := [.int (0 : Int32)]) (σ' := σ) (by decide +kernel) rfl rfl rfl ?_
    subst h
    exact fhW.zret (v := false) hΓ (by decide +kernel) hk
  · rw [if_pos hc] at h
    refine fhW.blk fhPF fhLL hΓ [(.aload_n 0, 0), (.getfield 87, 0), (.iload_n 1, 0)] (pc' := 13) (lv' := [(0, .ref 3), (1, .int v1)]) (st' := [.int v1, .int (σ.1 3 6)]) (σ' := σ) (by decide +kernel) rfl rfl rfl ?_
    refine fhW.i_ne hΓ (tgt := 20) (show fhbk _ _ (.if_icmp .ne (7)) _ = true by decide +kernel) (fun hc => ?_) (fun hc => ?_)
    · rw [if_neg hc] at h
      refine fhW.blk fhPF fhLL hΓ [(.iconst 0, 0)] (pc' := 21) (lv' := [(0, .ref 3), (1, .int v1)]) (st' := [.int (0 : Int32)]) (σ' := σ) (by decide +kernel) rfl rfl rfl ?_
      subst h
      exact fhW.zret (v := false) hΓ (by decide +kernel) hk
    · rw [if_pos hc] at h
      refine fhW.blk fhPF fhLL hΓ [(.iconst 1, 1)] (pc' := 17) (lv' := [(0, .ref 3), (1, .int v1)]) (st' := [.int (1 : Int32)]) (σ' := σ) (by decide +kernel) rfl rfl rfl ?_
      refine fhW.goto hΓ (off := 4) (tgt := 21) (by decide +kernel) ?_
      subst h
      exact fhW.zret (v := true) hΓ (by decide +kernel) hk
set_option maxRecDepth 100000 in
theorem T_X8_isSign {E : fhE} {d : Nat} (hE : fhEok fhYF E) (hd : 0 ≤ d) (v1 : Int32)  (σ : fhM) : fhC fhYF E d miX8_isSign [.ref 3, .int v1] σ (some (.int (fhb (f_X8_isSign v1 σ)))) σ := by
  refine fhC.of (y := yX8_isSign) (cc := cX8_isSign) (nL := 2) (ret := (some .boolean)) 8 rfl (by decide +kernel) (Nat.le_of_ble_eq_true rfl) ?_
  intro Γ hΓ hR hD hEn
  subst hD; subst hEn
  exact L_X8_isSign_E hE hΓ hd v1  σ _ rfl hR
set_option maxRecDepth 100000 in
set_option maxHeartbeats 4000000 in
theorem L_X8_takeSign_12 {Γ : fhX} (hE : fhEok fhYF (fhEn Γ)) (hΓ : fhOk fhYF 8 cX8_takeSign 2 none Γ) (hd : 2 ≤ fhD Γ)   (σ : fhM) (o : fhM) (h : f_X8_takeSign_12 σ = o) (hk : (fun o => fhRet Γ none o) o) : fhW fhYF Γ 12 [(0, .ref 3)] [] σ := by
  unfold f_X8_takeSign_12 at h
  refine fhW.blk fhPF fhLL hΓ [(.aload_n 0, 0)] (pc' := 13) (lv' := [(0, .ref 3)]) (st' := [.ref 3]) (σ' := σ) (by decide +kernel) rfl rfl rfl ?_
  refine fhW.callv hΓ mvX8_advance ml_8_44 (t := 3) (ci := 8) (av := []) (rest := []) (r := none) (σ' := (f_X8_advance σ)) (T_X8_advance (E := fhEn Γ) (d := fhD Γ - 1) hE (by omega) σ) (by omega) (by decide +kernel) rfl rfl rfl (Nat.le_of_ble_eq_true rfl) rfl ?_
  show fhW fhYF Γ 16 [(0, .ref 3)] [] (f_X8_advance σ)
  obtain ⟨q2, e1, h⟩ := fhlet_elim h
  rw [← e1]
  subst h
  exact fhW.vret hΓ (by decide +kernel) hk
set_option maxRecDepth 100000 in
set_option maxHeartbeats 4000000 in
theorem L_X8_takeSign_E {Γ : fhX} (hE : fhEok fhYF (fhEn Γ)) (hΓ : fhOk fhYF 8 cX8_takeSign 2 none Γ) (hd : 2 ≤ fhD Γ) (v1 : Int32)  (σ : fhM) (o : fhM) (h : f_X8_takeSign v1 σ = o) (hk : (fun o => fhRet Γ none o) o) : fhW fhYF Γ 0 [(0, .ref 3), (1, .int v1)] [] σ := by
  unfold f_X8_takeSign at h
  refine fhW.blk fhPF fhLL hΓ [(.aload_n 0, 0), (.iload_n 1, 0)] (pc' := 2) (lv' := [(0, .ref 3), (1, .int v1)]) (st' := [.int v1, .ref 3]) (σ' := σ) (by decide +kernel) rfl rfl rfl ?_
  refine fhW.callv hΓ mvX8_isSign ml_8_100 (t := 3) (ci := 8) (av := [.int v1]) (rest := []) (r := (some (.int (fhb (f_X8_isSign v1 σ))))) (σ' := σ) (T_X8_isSign (E := fhEn Γ) (d := fhD Γ - 1) hE (by omega) v1 σ) (by omega) (by decide +kernel) rfl rfl rfl (Nat.le_of_ble_eq_true rfl) rfl ?_
  show fhW fhYF Γ 5 [(0, .ref 3), (1, .int v1)] [.int (fhb (f_X8_isSign v1 σ))] σ
  refine fhW.b_ne hΓ (tgt := 12) (show fhbk _ _ (.ifCond .ne (7)) _ = true by decide +kernel) (fun hc => ?_) (fun hc => ?_)
  · rw [if_pos hc] at h
    refine fhW.sub (lv' := [(0, .ref 3)]) [0] rfl ?_
    exact L_X8_takeSign_12 hE hΓ hd σ _ h hk
  · rw [if_neg hc] at h
    refine fhW.blk fhPF fhLL hΓ [(.aload_n 0, 0)] (pc' := 9) (lv' := [(0, .ref 3), (1, .int v1)]) (st' := [.ref 3]) (σ' := σ) (by decide +kernel) rfl rfl rfl ?_
    refine fhW.callv hΓ mvX8_failHere ml_8_97 (t := 3) (ci := 8) (av := []) (rest := []) (r := none) (σ' := (f_X8_failHere σ)) (T_X8_failHere (E := fhEn Γ) (d := fhD Γ - 1) hE (by omega) σ) (by omega) (by decide +kernel) rfl rfl rfl (Nat.le_of_ble_eq_true rfl) rfl ?_
    show fhW fhYF Γ 12 [(0, .ref 3), (1, .int v1)] [] (f_X8_failHere σ)
    obtain ⟨q1, e2, h⟩ := fhlet_elim h
    rw [← e2]
    refine fhW.sub (lv' := [(0, .ref 3)]) [0] rfl ?_
    exact L_X8_takeSign_12 hE hΓ hd q1 _ h hk
set_option maxRecDepth 100000 in
theorem T_X8_takeSign {E : fhE} {d : Nat} (hE : fhEok fhYF E) (hd : 2 ≤ d) (v1 : Int32)  (σ : fhM) : fhC fhYF E d miX8_takeSign [.ref 3, .int v1] σ none (f_X8_takeSign v1 σ) := by
  refine fhC.of (y := yX8_takeSign) (cc := cX8_takeSign) (nL := 2) (ret := none) 8 rfl (by decide +kernel) (Nat.le_of_ble_eq_true rfl) ?_
  intro Γ hΓ hR hD hEn
  subst hD; subst hEn
  exact L_X8_takeSign_E hE hΓ hd v1  σ _ rfl hR
set_option maxRecDepth 100000 in
set_option maxHeartbeats 4000000 in
theorem L_X10_countKinds_29 {Γ : fhX} (hE : fhEok fhYF (fhEn Γ)) (hΓ : fhOk fhYF 10 cX10_countKinds 4 (some .int) Γ) (hd : 1 ≤ fhD Γ) (v1 : Int32) (v3 : Int32) (s0 : Int32) (s1 : Int32)  (σ : fhM) (o : (Int32 × Int32) ⊕ (Int32)) (h : f_X10_countKinds_29 v1 v3 s0 s1 σ = some o) (hk : (fhK (fun x => fhW fhYF Γ 4 [(0, .ref 10), (1, .int v1), (2, .int x.1), (3, .int x.2)] [] σ) (fun o => fhRet Γ (some (.int o)) σ)) o) : fhW fhYF Γ 29 [(0, .ref 10), (1, .int v1), (3, .int v3)] [.int s0, .int s1] σ := by
  unfold f_X10_countKinds_29 at h
  refine fhW.blk fhPF fhLL hΓ [(.iadd, 0), (.istore_n 2, 0), (.iinc 3 1, 1)] (pc' := 34) (lv' := [(3, .int (v3 + (1 : Int32))), (2, .int (s1 + s0)), (0, .ref 10), (1, .int v1)]) (st' := []) (σ' := σ) (by decide +kernel) rfl rfl rfl ?_
  refine fhW.goto hΓ (off := (-30)) (tgt := 4) (by decide +kernel) ?_
  refine fhW.sub (lv' := [(0, .ref 10), (1, .int v1), (2, .int (s1 + s0)), (3, .int (v3 + (1 : Int32)))]) [2, 3, 1, 0] rfl ?_
  have e9 := Option.some.inj h
  subst e9
  exact hk
set_option maxRecDepth 100000 in
set_option maxHeartbeats 4000000 in
theorem L_X10_countKinds_4 {Γ : fhX} (hE : fhEok fhYF (fhEn Γ)) (hΓ : fhOk fhYF 10 cX10_countKinds 4 (some .int) Γ) (hd : 1 ≤ fhD Γ) (v1 : Int32) (v2 : Int32) (v3 : Int32)  (σ : fhM) (o : (Int32 × Int32) ⊕ (Int32)) (h : f_X10_countKinds_4 v1 v2 v3 σ = some o) (hk : (fhK (fun x => fhW fhYF Γ 4 [(0, .ref 10), (1, .int v1), (2, .int x.1), (3, .int x.2)] [] σ) (fun o => fhRet Γ (some (.int o)) σ)) o) : fhW fhYF Γ 4 [(0, .ref 10), (1, .int v1), (2, .int v2), (3, .int v3)] [] σ := by
  unfold f_X10_countKinds_4 at h
  refine fhW.blk fhPF fhLL hΓ [(.iload_n 3, 0), (.iload_n 1, 0)] (pc' := 6) (lv' := [(0, .ref 10), (1, .int v1), (2, .int v2), (3, .int v3)]) (st' := [.int v1, .int v3]) (σ' := σ) (by decide +kernel) rfl rfl rfl ?_
  refine fhW.i_ge hΓ (tgt := 37) (show fhbk _ _ (.if_icmp .ge (31)) _ = true by decide +kernel) (fun hc => ?_) (fun hc => ?_)
  · rw [if_pos hc] at h
    refine fhW.blk fhPF fhLL hΓ [(.iload_n 2, 0)] (pc' := 38) (lv' := [(0, .ref 10), (1, .int v1), (2, .int v2), (3, .int v3)]) (st' := [.int v2]) (σ' := σ) (by decide +kernel) rfl rfl rfl ?_
    have e9 := Option.some.inj h
    subst e9
    exact fhW.iret hΓ (by decide +kernel) hk
  · rw [if_neg hc] at h
    refine fhW.blk fhPF fhLL hΓ [(.iload_n 2, 0), (.aload_n 0, 0), (.getfield 14, 0), (.bipush 15, 15), (.iload_n 3, 0), (.iadd, 0)] (pc' := 18) (lv' := [(0, .ref 10), (1, .int v1), (2, .int v2), (3, .int v3)]) (st' := [.int ((15 : Int32) + v3), .ref 11, .int v2]) (σ' := σ) (by decide +kernel) rfl rfl rfl ?_
    refine fhW.callv hΓ mvX2_get ml_10_30 (t := 11) (ci := 2) (av := [.int ((15 : Int32) + v3)]) (rest := [.int v2]) (r := (some (.int (fcG σ 11 ((15 : Int32) + v3))))) (σ' := σ) (T_X2_get (E := fhEn Γ) (d := fhD Γ - 1) hE (by omega) 11 ((15 : Int32) + v3) rfl σ) (by omega) (by decide +kernel) rfl rfl rfl (Nat.le_of_ble_eq_true rfl) rfl ?_
    show fhW fhYF Γ 21 [(0, .ref 10), (1, .int v1), (2, .int v2), (3, .int v3)] [.int (fcG σ 11 ((15 : Int32) + v3)), .int v2] σ
    refine fhW.z_le hΓ (tgt := 28) (show fhbk _ _ (.ifCond .le (7)) _ = true by decide +kernel) (fun hc => ?_) (fun hc => ?_)
    · simp only [if_pos hc] at h
      refine fhW.blk fhPF fhLL hΓ [(.iconst 0, 0)] (pc' := 29) (lv' := [(0, .ref 10), (1, .int v1), (2, .int v2), (3, .int v3)]) (st' := [.int (0 : Int32), .int v2]) (σ' := σ) (by decide +kernel) rfl rfl rfl ?_
      refine fhW.sub (lv' := [(0, .ref 10), (1, .int v1), (3, .int v3)]) [0, 1, 3] rfl ?_
      exact L_X10_countKinds_29 hE hΓ hd v1 v3 (0 : Int32) v2 σ _ h hk
    · simp only [if_neg hc] at h
      refine fhW.blk fhPF fhLL hΓ [(.iconst 1, 1)] (pc' := 25) (lv' := [(0, .ref 10), (1, .int v1), (2, .int v2), (3, .int v3)]) (st' := [.int (1 : Int32), .int v2]) (σ' := σ) (by decide +kernel) rfl rfl rfl ?_
      refine fhW.goto hΓ (off := 4) (tgt := 29) (by decide +kernel) ?_
      refine fhW.sub (lv' := [(0, .ref 10), (1, .int v1), (3, .int v3)]) [0, 1, 3] rfl ?_
      exact L_X10_countKinds_29 hE hΓ hd v1 v3 (1 : Int32) v2 σ _ h hk
set_option maxRecDepth 100000 in
set_option maxHeartbeats 4000000 in
theorem L_X10_countKinds_E {Γ : fhX} (hE : fhEok fhYF (fhEn Γ)) (hΓ : fhOk fhYF 10 cX10_countKinds 4 (some .int) Γ) (hd : 1 ≤ fhD Γ) (v1 : Int32)  (σ : fhM) (o : Int32) (h : f_X10_countKinds v1 σ = some o) (hk : (fun o => fhRet Γ (some (.int o)) σ) o) : fhW fhYF Γ 0 [(0, .ref 10), (1, .int v1)] [] σ := by
  unfold f_X10_countKinds at h
  refine fhW.blk fhPF fhLL hΓ [(.iconst 0, 0), (.istore_n 2, 0), (.iconst 0, 0), (.istore_n 3, 0)] (pc' := 4) (lv' := [(3, .int (0 : Int32)), (2, .int (0 : Int32)), (0, .ref 10), (1, .int v1)]) (st' := []) (σ' := σ) (by decide +kernel) rfl rfl rfl ?_
  refine fhW.sub (lv' := [(0, .ref 10), (1, .int v1), (2, .int (0 : Int32)), (3, .int (0 : Int32))]) [2, 3, 1, 0] rfl ?_
  exact fhlp_ok (W := (fun x => fhW fhYF Γ 4 [(0, .ref 10), (1, .int v1), (2, .int x.1), (3, .int x.2)] [] σ)) (B := (fun o => fhRet Γ (some (.int o)) σ)) (fun x o h hk => L_X10_countKinds_4 hE hΓ hd v1 x.1 x.2 σ o h hk) ((0 : Int32), (0 : Int32)) _ h hk
set_option maxRecDepth 100000 in
theorem T_X10_countKinds {E : fhE} {d : Nat} (hE : fhEok fhYF E) (hd : 1 ≤ d) (v1 : Int32)  (σ : fhM) {o : Int32} (h : f_X10_countKinds v1 σ = some o) : fhC fhYF E d miX10_countKinds [.ref 10, .int v1] σ (some (.int o)) σ := by
  refine fhC.of (y := yX10_countKinds) (cc := cX10_countKinds) (nL := 4) (ret := (some .int)) 10 rfl (by decide +kernel) (Nat.le_of_ble_eq_true rfl) ?_
  intro Γ hΓ hR hD hEn
  subst hD; subst hEn
  exact L_X10_countKinds_E hE hΓ hd v1  σ _ h hR

