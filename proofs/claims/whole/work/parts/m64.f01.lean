set_option maxRecDepth 100000 in
set_option maxHeartbeats 4000000 in
theorem L_J9_max_7cf53_E {Γ : fhX} (hE : fhEok fhYF (fhEn Γ)) (hΓ : fhOk fhYF 14 cJ9_max_7cf53 2 (some .int) Γ) (hd : 0 ≤ fhD Γ) (v0 : Int32) (v1 : Int32)  (σ : fhM) (o : Int32) (h : f_J9_max_7cf53 v0 v1 σ = o) (hk : (fun o => fhRet Γ (some (.int o)) σ) o) : fhW fhYF Γ 0 [(0, .int v0), (1, .int v1)] [] σ := by
  unfold f_J9_max_7cf53 at h
  refine fhW.blk fhPF fhLL hΓ [(.iload_n 0, 0), (.iload_n 1, 0)] (pc' := 2) (lv' := [(0, .int v0), (1, .int v1)]) (st' := [.int v1, .int v0]) (σ' := σ) (by decide +kernel) rfl rfl rfl ?_
  refine fhW.i_lt hΓ (tgt := 9) (show fhbk _ _ (.if_icmp .lt (7)) _ = true by decide +kernel) (fun hc => ?_) (fun hc => ?_)
  · rw [if_pos hc] at h
    refine fhW.blk fhPF fhLL hΓ [(.iload_n 1, 0)] (pc' := 10) (lv' := [(0, .int v0), (1, .int v1)]) (st' := [.int v1]) (σ' := σ) (by decide +kernel) rfl rfl rfl ?_
    subst h
    exact fhW.iret hΓ (by decide +kernel) hk
  · rw [if_neg hc] at h
    refine fhW.blk fhPF fhLL hΓ [(.iload_n 0, 0)] (pc' := 6) (lv' := [(0, .int v0), (1, .int v1)]) (st' := [.int v0]) (σ' := σ) (by decide +kernel) rfl rfl rfl ?_
    refine fhW.goto hΓ (off := 4) (tgt := 10) (by decide +kernel) ?_
    subst h
    exact fhW.iret hΓ (by decide +kernel) hk
set_option maxRecDepth 100000 in
theorem T_J9_max_7cf53 {E : fhE} {d : Nat} (hE : fhEok fhYF E) (hd : 0 ≤ d) (v0 : Int32) (v1 : Int32)  (σ : fhM) : fhC fhYF E d miJ9_max_7cf53 [.int v0, .int v1] σ (some (.int (f_J9_max_7cf53 v0 v1 σ))) σ := by
  refine fhC.ofF (y := yJ9_max_7cf53) (cc := cJ9_max_7cf53) (nL := 2) (ret := (some .int)) 14 rfl (fhmath rfl (by decide +kernel)) (Nat.le_of_ble_eq_true rfl) ?_
  intro Γ hΓ hR hD hEn
  subst hD; subst hEn
  exact L_J9_max_7cf53_E hE hΓ hd v0 v1  σ _ rfl hR
set_option maxRecDepth 100000 in
set_option maxHeartbeats 4000000 in
theorem L_J9_min_7cf53_E {Γ : fhX} (hE : fhEok fhYF (fhEn Γ)) (hΓ : fhOk fhYF 14 cJ9_min_7cf53 2 (some .int) Γ) (hd : 0 ≤ fhD Γ) (v0 : Int32) (v1 : Int32)  (σ : fhM) (o : Int32) (h : f_J9_min_7cf53 v0 v1 σ = o) (hk : (fun o => fhRet Γ (some (.int o)) σ) o) : fhW fhYF Γ 0 [(0, .int v0), (1, .int v1)] [] σ := by
  unfold f_J9_min_7cf53 at h
  refine fhW.blk fhPF fhLL hΓ [(.iload_n 0, 0), (.iload_n 1, 0)] (pc' := 2) (lv' := [(0, .int v0), (1, .int v1)]) (st' := [.int v1, .int v0]) (σ' := σ) (by decide +kernel) rfl rfl rfl ?_
  refine fhW.i_gt hΓ (tgt := 9) (show fhbk _ _ (.if_icmp .gt (7)) _ = true by decide +kernel) (fun hc => ?_) (fun hc => ?_)
  · rw [if_pos hc] at h
    refine fhW.blk fhPF fhLL hΓ [(.iload_n 1, 0)] (pc' := 10) (lv' := [(0, .int v0), (1, .int v1)]) (st' := [.int v1]) (σ' := σ) (by decide +kernel) rfl rfl rfl ?_
    subst h
    exact fhW.iret hΓ (by decide +kernel) hk
  · rw [if_neg hc] at h
    refine fhW.blk fhPF fhLL hΓ [(.iload_n 0, 0)] (pc' := 6) (lv' := [(0, .int v0), (1, .int v1)]) (st' := [.int v0]) (σ' := σ) (by decide +kernel) rfl rfl rfl ?_
    refine fhW.goto hΓ (off := 4) (tgt := 10) (by decide +kernel) ?_
    subst h
    exact fhW.iret hΓ (by decide +kernel) hk
set_option maxRecDepth 100000 in
theorem T_J9_min_7cf53 {E : fhE} {d : Nat} (hE : fhEok fhYF E) (hd : 0 ≤ d) (v0 : Int32) (v1 : Int32)  (σ : fhM) : fhC fhYF E d miJ9_min_7cf53 [.int v0, .int v1] σ (some (.int (f_J9_min_7cf53 v0 v1 σ))) σ := by
  refine fhC.ofF (y := yJ9_min_7cf53) (cc := cJ9_min_7cf53) (nL := 2) (ret := (some .int)) 14 rfl (fhmath rfl (by decide +kernel)) (Nat.le_of_ble_eq_true rfl) ?_
  intro Γ hΓ hR hD hEn
  subst hD; subst hEn
  exact L_J9_min_7cf53_E hE hΓ hd v0 v1  σ _ rfl hR
set_option maxRecDepth 100000 in
set_option maxHeartbeats 4000000 in
theorem L_J9_max_f86c9_E {Γ : fhX} (hE : fhEok fhYF (fhEn Γ)) (hΓ : fhOk fhYF 14 cJ9_max_f86c9 4 (some .long) Γ) (hd : 0 ≤ fhD Γ) (v0 : Int64) (v2 : Int64)  (σ : fhM) (o : Int64) (h : f_J9_max_f86c9 v0 v2 σ = o) (hk : (fun o => fhRet Γ (some (.long o)) σ) o) : fhW fhYF Γ 0 [(0, .long v0), (2, .long v2)] [] σ := by
  unfold f_J9_max_f86c9 at h
  refine fhW.blk fhPF fhLL hΓ [(.lload_n 0, 0), (.lload_n 2, 0), (.lcmp, 0)] (pc' := 3) (lv' := [(0, .long v0), (2, .long v2)]) (st' := [.int (lg_cmp v0 v2)]) (σ' := σ) (by decide +kernel) rfl rfl rfl ?_
  refine fhW.z_lt hΓ (tgt := 10) (show fhbk _ _ (.ifCond .lt (7)) _ = true by decide +kernel) (fun hc => ?_) (fun hc => ?_)
  · rw [if_pos hc] at h
    refine fhW.blk fhPF fhLL hΓ [(.lload_n 2, 0)] (pc' := 11) (lv' := [(0, .long v0), (2, .long v2)]) (st' := [.long v2]) (σ' := σ) (by decide +kernel) rfl rfl rfl ?_
    subst h
    exact fhW.lret hΓ (by decide +kernel) hk
  · rw [if_neg hc] at h
    refine fhW.blk fhPF fhLL hΓ [(.lload_n 0, 0)] (pc' := 7) (lv' := [(0, .long v0), (2, .long v2)]) (st' := [.long v0]) (σ' := σ) (by decide +kernel) rfl rfl rfl ?_
    refine fhW.goto hΓ (off := 4) (tgt := 11) (by decide +kernel) ?_
    subst h
    exact fhW.lret hΓ (by decide +kernel) hk
set_option maxRecDepth 100000 in
theorem T_J9_max_f86c9 {E : fhE} {d : Nat} (hE : fhEok fhYF E) (hd : 0 ≤ d) (v0 : Int64) (v2 : Int64)  (σ : fhM) : fhC fhYF E d miJ9_max_f86c9 [.long v0, .long v2] σ (some (.long (f_J9_max_f86c9 v0 v2 σ))) σ := by
  refine fhC.ofF (y := yJ9_max_f86c9) (cc := cJ9_max_f86c9) (nL := 4) (ret := (some .long)) 14 rfl (fhmath rfl (by decide +kernel)) (Nat.le_of_ble_eq_true rfl) ?_
  intro Γ hΓ hR hD hEn
  subst hD; subst hEn
  exact L_J9_max_f86c9_E hE hΓ hd v0 v2  σ _ rfl hR
set_option maxRecDepth 100000 in
set_option maxHeartbeats 4000000 in
theorem L_J9_min_f86c9_E {Γ : fhX} (hE : fhEok fhYF (fhEn Γ)) (hΓ : fhOk fhYF 14 cJ9_min_f86c9 4 (some .long) Γ) (hd : 0 ≤ fhD Γ) (v0 : Int64) (v2 : Int64)  (σ : fhM) (o : Int64) (h : f_J9_min_f86c9 v0 v2 σ = o) (hk : (fun o => fhRet Γ (some (.long o)) σ) o) : fhW fhYF Γ 0 [(0, .long v0), (2, .long v2)] [] σ := by
  unfold f_J9_min_f86c9 at h
  refine fhW.blk fhPF fhLL hΓ [(.lload_n 0, 0), (.lload_n 2, 0), (.lcmp, 0)] (pc' := 3) (lv' := [(0, .long v0), (2, .long v2)]) (st' := [.int (lg_cmp v0 v2)]) (σ' := σ) (by decide +kernel) rfl rfl rfl ?_
  refine fhW.z_gt hΓ (tgt := 10) (show fhbk _ _ (.ifCond .gt (7)) _ = true by decide +kernel) (fun hc => ?_) (fun hc => ?_)
  · rw [if_pos hc] at h
    refine fhW.blk fhPF fhLL hΓ [(.lload_n 2, 0)] (pc' := 11) (lv' := [(0, .long v0), (2, .long v2)]) (st' := [.long v2]) (σ' := σ) (by decide +kernel) rfl rfl rfl ?_
    subst h
    exact fhW.lret hΓ (by decide +kernel) hk
  · rw [if_neg hc] at h
    refine fhW.blk fhPF fhLL hΓ [(.lload_n 0, 0)] (pc' := 7) (lv' := [(0, .long v0), (2, .long v2)]) (st' := [.long v0]) (σ' := σ) (by decide +kernel) rfl rfl rfl ?_
    refine fhW.goto hΓ (off := 4) (tgt := 11) (by decide +kernel) ?_
    subst h
    exact fhW.lret hΓ (by decide +kernel) hk
set_option maxRecDepth 100000 in
theorem T_J9_min_f86c9 {E : fhE} {d : Nat} (hE : fhEok fhYF E) (hd : 0 ≤ d) (v0 : Int64) (v2 : Int64)  (σ : fhM) : fhC fhYF E d miJ9_min_f86c9 [.long v0, .long v2] σ (some (.long (f_J9_min_f86c9 v0 v2 σ))) σ := by
  refine fhC.ofF (y := yJ9_min_f86c9) (cc := cJ9_min_f86c9) (nL := 4) (ret := (some .long)) 14 rfl (fhmath rfl (by decide +kernel)) (Nat.le_of_ble_eq_true rfl) ?_
  intro Γ hΓ hR hD hEn
  subst hD; subst hEn
  exact L_J9_min_f86c9_E hE hΓ hd v0 v2  σ _ rfl hR
set_option maxRecDepth 100000 in
set_option maxHeartbeats 4000000 in
theorem L_J9_floorDiv_7cf53_E {Γ : fhX} (hE : fhEok fhYF (fhEn Γ)) (hΓ : fhOk fhYF 14 cJ9_floorDiv_7cf53 3 (some .int) Γ) (hd : 0 ≤ fhD Γ) (v0 : Int32) (v1 : Int32)  (σ : fhM) (o : Int32) (h : f_J9_floorDiv_7cf53 v0 v1 σ = some o) (hk : (fun o => fhRet Γ (some (.int o)) σ) o) : fhW fhYF Γ 0 [(0, .int v0), (1, .int v1)] [] σ := by
  unfold f_J9_floorDiv_7cf53 at h
  obtain ⟨hg1, h⟩ := fhif h
  refine fhW.blk fhPF fhLL hΓ [(.iload_n 0, 0), (.iload_n 1, 0), (.idiv, 0), (.istore_n 2, 0), (.iload_n 0, 0), (.iload_n 1, 0), (.ixor, 0)] (pc' := 7) (lv' := [(2, .int (v0 / v1)), (0, .int v0), (1, .int v1)]) (st' := [.int (v0 ^^^ v1)]) (σ' := σ) (by decide +kernel) rfl rfl hg1 ?_
  refine fhW.z_ge hΓ (tgt := 21) (show fhbk _ _ (.ifCond .ge (14)) _ = true by decide +kernel) (fun hc => ?_) (fun hc => ?_)
  · rw [if_pos hc] at h
    refine fhW.blk fhPF fhLL hΓ [(.iload_n 2, 0)] (pc' := 22) (lv' := [(2, .int (v0 / v1)), (0, .int v0), (1, .int v1)]) (st' := [.int (v0 / v1)]) (σ' := σ) (by decide +kernel) rfl rfl rfl ?_
    have e9 := Option.some.inj h
    subst e9
    exact fhW.iret hΓ (by decide +kernel) hk
  · rw [if_neg hc] at h
    refine fhW.blk fhPF fhLL hΓ [(.iload_n 2, 0), (.iload_n 1, 0), (.imul, 0), (.iload_n 0, 0)] (pc' := 14) (lv' := [(2, .int (v0 / v1)), (0, .int v0), (1, .int v1)]) (st' := [.int v0, .int ((v0 / v1) * v1)]) (σ' := σ) (by decide +kernel) rfl rfl rfl ?_
    refine fhW.i_eq hΓ (tgt := 21) (show fhbk _ _ (.if_icmp .eq (7)) _ = true by decide +kernel) (fun hc => ?_) (fun hc => ?_)
    · rw [if_pos hc] at h
      refine fhW.blk fhPF fhLL hΓ [(.iload_n 2, 0)] (pc' := 22) (lv' := [(2, .int (v0 / v1)), (0, .int v0), (1, .int v1)]) (st' := [.int (v0 / v1)]) (σ' := σ) (by decide +kernel) rfl rfl rfl ?_
      have e9 := Option.some.inj h
      subst e9
      exact fhW.iret hΓ (by decide +kernel) hk
    · rw [if_neg hc] at h
      refine fhW.blk fhPF fhLL hΓ [(.iload_n 2, 0), (.iconst 1, 1), (.isub, 0)] (pc' := 20) (lv' := [(2, .int (v0 / v1)), (0, .int v0), (1, .int v1)]) (st' := [.int ((v0 / v1) - (1 : Int32))]) (σ' := σ) (by decide +kernel) rfl rfl rfl ?_
      have e9 := Option.some.inj h
      subst e9
      exact fhW.iret hΓ (by decide +kernel) hk
set_option maxRecDepth 100000 in
theorem T_J9_floorDiv_7cf53 {E : fhE} {d : Nat} (hE : fhEok fhYF E) (hd : 0 ≤ d) (v0 : Int32) (v1 : Int32)  (σ : fhM) {o : Int32} (h : f_J9_floorDiv_7cf53 v0 v1 σ = some o) : fhC fhYF E d miJ9_floorDiv_7cf53 [.int v0, .int v1] σ (some (.int o)) σ := by
  refine fhC.ofF (y := yJ9_floorDiv_7cf53) (cc := cJ9_floorDiv_7cf53) (nL := 3) (ret := (some .int)) 14 rfl (fhmath rfl (by decide +kernel)) (Nat.le_of_ble_eq_true rfl) ?_
  intro Γ hΓ hR hD hEn
  subst hD; subst hEn
  exact L_J9_floorDiv_7cf53_E hE hΓ hd v0 v1  σ _ h hR
set_option maxRecDepth 100000 in
set_option maxHeartbeats 4000000 in
theorem L_J6_bitCount_0f7a4_E {Γ : fhX} (hE : fhEok fhYF (fhEn Γ)) (hΓ : fhOk fhYF 13 cJ6_bitCount_0f7a4 1 (some .int) Γ) (hd : 0 ≤ fhD Γ) (v0 : Int32)  (σ : fhM) (o : Int32) (h : f_J6_bitCount_0f7a4 v0 σ = o) (hk : (fun o => fhRet Γ (some (.int o)) σ) o) : fhW fhYF Γ 0 [(0, .int v0)] [] σ := by
  unfold f_J6_bitCount_0f7a4 at h
  refine fhW.blk fhPF fhLL hΓ [(.iload_n 0, 0), (.iload_n 0, 0), (.iconst 1, 1), (.iushr, 0)] (pc' := 4) (lv' := [(0, .int v0)]) (st' := [.int (fhus v0 (1 : Int32)), .int v0]) (σ' := σ) (by decide +kernel) rfl rfl rfl ?_
  refine fhW.ldcw hΓ (v := 1431655765) (fhm (in_t (in_4 (List.mem_of_getElem? (i := 169) rfl))) rfl) (show decode _ _ = .ok (.ldc_w 265, 3) by decide +kernel) ?_
  refine fhW.blk fhPF fhLL hΓ [(.iand, 0), (.isub, 0), (.istore_n 0, 0)] (pc' := 10) (lv' := [(0, .int (v0 - ((fhus v0 (1 : Int32)) &&& (1431655765 : Int32))))]) (st' := []) (σ' := σ) (by decide +kernel) rfl rfl rfl ?_
  obtain ⟨w0_1, e1, h⟩ := fhlet_elim h
  rw [← e1]
  refine fhW.blk fhPF fhLL hΓ [(.iload_n 0, 0)] (pc' := 11) (lv' := [(0, .int w0_1)]) (st' := [.int w0_1]) (σ' := σ) (by decide +kernel) rfl rfl rfl ?_
  refine fhW.ldcw hΓ (v := 858993459) (fhm (in_t (in_4 (List.mem_of_getElem? (i := 170) rfl))) rfl) (show decode _ _ = .ok (.ldc_w 266, 3) by decide +kernel) ?_
  refine fhW.blk fhPF fhLL hΓ [(.iand, 0), (.iload_n 0, 0), (.iconst 2, 2), (.iushr, 0)] (pc' := 18) (lv' := [(0, .int w0_1)]) (st' := [.int (fhus w0_1 (2 : Int32)), .int (w0_1 &&& (858993459 : Int32))]) (σ' := σ) (by decide +kernel) rfl rfl rfl ?_
  refine fhW.ldcw hΓ (v := 858993459) (fhm (in_t (in_4 (List.mem_of_getElem? (i := 170) rfl))) rfl) (show decode _ _ = .ok (.ldc_w 266, 3) by decide +kernel) ?_
  refine fhW.blk fhPF fhLL hΓ [(.iand, 0), (.iadd, 0), (.istore_n 0, 0)] (pc' := 24) (lv' := [(0, .int ((w0_1 &&& (858993459 : Int32)) + ((fhus w0_1 (2 : Int32)) &&& (858993459 : Int32))))]) (st' := []) (σ' := σ) (by decide +kernel) rfl rfl rfl ?_
  obtain ⟨w0_2, e2, h⟩ := fhlet_elim h
  rw [← e2]
  refine fhW.blk fhPF fhLL hΓ [(.iload_n 0, 0), (.iload_n 0, 0), (.iconst 4, 4), (.iushr, 0), (.iadd, 0)] (pc' := 29) (lv' := [(0, .int w0_2)]) (st' := [.int (w0_2 + (fhus w0_2 (4 : Int32)))]) (σ' := σ) (by decide +kernel) rfl rfl rfl ?_
  refine fhW.ldcw hΓ (v := 252645135) (fhm (in_t (in_4 (List.mem_of_getElem? (i := 171) rfl))) rfl) (show decode _ _ = .ok (.ldc_w 267, 3) by decide +kernel) ?_
  refine fhW.blk fhPF fhLL hΓ [(.iand, 0), (.istore_n 0, 0)] (pc' := 34) (lv' := [(0, .int ((w0_2 + (fhus w0_2 (4 : Int32))) &&& (252645135 : Int32)))]) (st' := []) (σ' := σ) (by decide +kernel) rfl rfl rfl ?_
  obtain ⟨w0_3, e3, h⟩ := fhlet_elim h
  rw [← e3]
  refine fhW.blk fhPF fhLL hΓ [(.iload_n 0, 0), (.iload_n 0, 0), (.bipush 8, 8), (.iushr, 0), (.iadd, 0), (.istore_n 0, 0), (.iload_n 0, 0), (.iload_n 0, 0), (.bipush 16, 16), (.iushr, 0), (.iadd, 0), (.istore_n 0, 0)] (pc' := 48) (lv' := [(0, .int ((w0_3 + (fhus w0_3 (8 : Int32))) + (fhus (w0_3 + (fhus w0_3 (8 : Int32))) (16 : Int32))))]) (st' := []) (σ' := σ) (by decide +kernel) rfl rfl rfl ?_
  obtain ⟨w0_4, e4, h⟩ := fhlet_elim h
  rw [← e4]
  refine fhW.blk fhPF fhLL hΓ [(.iload_n 0, 0), (.bipush 63, 63), (.iand, 0)] (pc' := 52) (lv' := [(0, .int w0_4)]) (st' := [.int (w0_4 &&& (63 : Int32))]) (σ' := σ) (by decide +kernel) rfl rfl rfl ?_
  subst h
  exact fhW.iret hΓ (by decide +kernel) hk
set_option maxRecDepth 100000 in
theorem T_J6_bitCount_0f7a4 {E : fhE} {d : Nat} (hE : fhEok fhYF E) (hd : 0 ≤ d) (v0 : Int32)  (σ : fhM) : fhC fhYF E d miJ6_bitCount_0f7a4 [.int v0] σ (some (.int (f_J6_bitCount_0f7a4 v0 σ))) σ := by
  refine fhC.of (y := yJ6_bitCount_0f7a4) (cc := cJ6_bitCount_0f7a4) (nL := 1) (ret := (some .int)) 13 rfl (by decide +kernel) (Nat.le_of_ble_eq_true rfl) ?_
  intro Γ hΓ hR hD hEn
  subst hD; subst hEn
  exact L_J6_bitCount_0f7a4_E hE hΓ hd v0  σ _ rfl hR
set_option maxRecDepth 100000 in
set_option maxHeartbeats 4000000 in
theorem L_X11_refuse_E {Γ : fhX} (hE : fhEok fhYF (fhEn Γ)) (hΓ : fhOk fhYF 11 cX11_refuse 2 (some .int) Γ) (hd : 1 ≤ fhD Γ) (v1 : Int32)  (σ : fhM) (o : Int32 × fhM) (h : f_X11_refuse v1 σ = o) (hk : (fun o => fhRet Γ (some (.int o.1)) o.2) o) : fhW fhYF Γ 0 [(0, .ref 0), (1, .int v1)] [] σ := by
  unfold f_X11_refuse at h
  refine fhW.blk fhPF fhLL hΓ [(.aload_n 0, 0), (.getfield 93, 0), (.iload_n 1, 0), (.aload_n 0, 0), (.getfield 93, 0), (.iload_n 1, 0)] (pc' := 10) (lv' := [(0, .ref 0), (1, .int v1)]) (st' := [.int v1, .ref 100, .int v1, .ref 100]) (σ' := σ) (by decide +kernel) rfl rfl rfl ?_
  refine fhW.callv hΓ mvX2_get ml_11_117 (t := 100) (ci := 2) (av := [.int v1]) (rest := [.int v1, .ref 100]) (r := (some (.int (fcG σ 100 v1)))) (σ' := σ) (T_X2_get (E := fhEn Γ) (d := fhD Γ - 1) hE (by omega) 100 v1 rfl σ) (by omega) (by decide +kernel) rfl rfl rfl (Nat.le_of_ble_eq_true rfl) rfl ?_
  show fhW fhYF Γ 13 [(0, .ref 0), (1, .int v1)] [.int (fcG σ 100 v1), .int v1, .ref 100] σ
  refine fhW.blk fhPF fhLL hΓ [(.iconst 1, 1), (.iadd, 0)] (pc' := 15) (lv' := [(0, .ref 0), (1, .int v1)]) (st' := [.int ((fcG σ 100 v1) + (1 : Int32)), .int v1, .ref 100]) (σ' := σ) (by decide +kernel) rfl rfl rfl ?_
  refine fhW.callv hΓ mvX2_put ml_11_113 (t := 100) (ci := 2) (av := [.int v1, .int ((fcG σ 100 v1) + (1 : Int32))]) (rest := []) (r := none) (σ' := (fcP σ 100 v1 ((fcG σ 100 v1) + (1 : Int32)))) (T_X2_put (E := fhEn Γ) (d := fhD Γ - 1) hE (by omega) 100 v1 ((fcG σ 100 v1) + (1 : Int32)) rfl σ) (by omega) (by decide +kernel) rfl rfl rfl (Nat.le_of_ble_eq_true rfl) rfl ?_
  show fhW fhYF Γ 18 [(0, .ref 0), (1, .int v1)] [] (fcP σ 100 v1 ((fcG σ 100 v1) + (1 : Int32)))
  refine fhW.blk fhPF fhLL hΓ [(.iconst (-1), -1)] (pc' := 19) (lv' := [(0, .ref 0), (1, .int v1)]) (st' := [.int (-1 : Int32)]) (σ' := (fcP σ 100 v1 ((fcG σ 100 v1) + (1 : Int32)))) (by decide +kernel) rfl rfl rfl ?_
  subst h
  exact fhW.iret hΓ (by decide +kernel) hk
set_option maxRecDepth 100000 in
theorem T_X11_refuse {E : fhE} {d : Nat} (hE : fhEok fhYF E) (hd : 1 ≤ d) (v1 : Int32)  (σ : fhM) : fhC fhYF E d miX11_refuse [.ref 0, .int v1] σ (some (.int (f_X11_refuse v1 σ).1)) (f_X11_refuse v1 σ).2 := by
  refine fhC.of (y := yX11_refuse) (cc := cX11_refuse) (nL := 2) (ret := (some .int)) 11 rfl (by decide +kernel) (Nat.le_of_ble_eq_true rfl) ?_
  intro Γ hΓ hR hD hEn
  subst hD; subst hEn
  exact L_X11_refuse_E hE hΓ hd v1  σ _ rfl hR
set_option maxRecDepth 100000 in
set_option maxHeartbeats 4000000 in
theorem L_X11_putFour_3 {Γ : fhX} (hE : fhEok fhYF (fhEn Γ)) (hΓ : fhOk fhYF 11 cX11_putFour 3 none Γ) (hd : 1 ≤ fhD Γ) (v1 : Int32) (v2 : Int32)  (σ : fhM) (o : (Int32 × fhM) ⊕ (fhM)) (h : f_X11_putFour_3 v1 v2 σ = some o) (hk : (fhK (fun x => fhW fhYF Γ 3 [(0, .ref 0), (1, .int v1), (2, .int x.1)] [] x.2) (fun o => fhRet Γ none o)) o) : fhW fhYF Γ 3 [(0, .ref 0), (1, .int v1), (2, .int v2)] [] σ := by
  unfold f_X11_putFour_3 at h
  refine fhW.blk fhPF fhLL hΓ [(.iload_n 2, 0)] (pc' := 4) (lv' := [(0, .ref 0), (1, .int v1), (2, .int v2)]) (st' := [.int v2]) (σ' := σ) (by decide +kernel) rfl rfl rfl ?_
  refine fhW.z_lt hΓ (tgt := 41) (show fhbk _ _ (.ifCond .lt (37)) _ = true by decide +kernel) (fun hc => ?_) (fun hc => ?_)
  · rw [if_pos hc] at h
    have e9 := Option.some.inj h
    subst e9
    exact fhW.vret hΓ (by decide +kernel) hk
  · rw [if_neg hc] at h
    refine fhW.blk fhPF fhLL hΓ [(.aload_n 0, 0), (.getfield 14, 0), (.aload_n 0, 0), (.getfield 103, 0), (.iload_n 1, 0), (.iload_n 2, 0), (.iushr, 0), (.sipush 255, 255), (.iand, 0)] (pc' := 22) (lv' := [(0, .ref 0), (1, .int v1), (2, .int v2)]) (st' := [.int ((fhus v1 v2) &&& (255 : Int32)), .int (σ.1 0 1), .ref 1]) (σ' := σ) (by decide +kernel) rfl rfl rfl ?_
    refine fhW.callv hΓ mvX2_put ml_11_113 (t := 1) (ci := 2) (av := [.int (σ.1 0 1), .int ((fhus v1 v2) &&& (255 : Int32))]) (rest := []) (r := none) (σ' := (fcP σ 1 (σ.1 0 1) ((fhus v1 v2) &&& (255 : Int32)))) (T_X2_put (E := fhEn Γ) (d := fhD Γ - 1) hE (by omega) 1 (σ.1 0 1) ((fhus v1 v2) &&& (255 : Int32)) rfl σ) (by omega) (by decide +kernel) rfl rfl rfl (Nat.le_of_ble_eq_true rfl) rfl ?_
    show fhW fhYF Γ 25 [(0, .ref 0), (1, .int v1), (2, .int v2)] [] (fcP σ 1 (σ.1 0 1) ((fhus v1 v2) &&& (255 : Int32)))
    refine fhW.blk fhPF fhLL hΓ [(.aload_n 0, 0), (.dup, 0), (.getfield 103, 0), (.iconst 1, 1), (.iadd, 0), (.putfield 103, 0), (.iinc 2 (-8), -8)] (pc' := 38) (lv' := [(2, .int (v2 + (-8 : Int32))), (0, .ref 0), (1, .int v1)]) (st' := []) (σ' := (fhI (fcP σ 1 (σ.1 0 1) ((fhus v1 v2) &&& (255 : Int32))) 0 1 ((σ.1 0 1) + (1 : Int32)))) (by decide +kernel) rfl rfl rfl ?_
    refine fhW.goto hΓ (off := (-35)) (tgt := 3) (by decide +kernel) ?_
    refine fhW.sub (lv' := [(0, .ref 0), (1, .int v1), (2, .int (v2 + (-8 : Int32)))]) [1, 2, 0] rfl ?_
    have e9 := Option.some.inj h
    subst e9
    exact hk
set_option maxRecDepth 100000 in
set_option maxHeartbeats 4000000 in
theorem L_X11_putFour_E {Γ : fhX} (hE : fhEok fhYF (fhEn Γ)) (hΓ : fhOk fhYF 11 cX11_putFour 3 none Γ) (hd : 1 ≤ fhD Γ) (v1 : Int32)  (σ : fhM) (o : fhM) (h : f_X11_putFour v1 σ = some o) (hk : (fun o => fhRet Γ none o) o) : fhW fhYF Γ 0 [(0, .ref 0), (1, .int v1)] [] σ := by
  unfold f_X11_putFour at h
  refine fhW.blk fhPF fhLL hΓ [(.bipush 24, 24), (.istore_n 2, 0)] (pc' := 3) (lv' := [(2, .int (24 : Int32)), (0, .ref 0), (1, .int v1)]) (st' := []) (σ' := σ) (by decide +kernel) rfl rfl rfl ?_
  refine fhW.sub (lv' := [(0, .ref 0), (1, .int v1), (2, .int (24 : Int32))]) [1, 2, 0] rfl ?_
  exact fhlp_ok (W := (fun x => fhW fhYF Γ 3 [(0, .ref 0), (1, .int v1), (2, .int x.1)] [] x.2)) (B := (fun o => fhRet Γ none o)) (fun x o h hk => L_X11_putFour_3 hE hΓ hd v1 x.1 x.2 o h hk) ((24 : Int32), σ) _ h hk
set_option maxRecDepth 100000 in
theorem T_X11_putFour {E : fhE} {d : Nat} (hE : fhEok fhYF E) (hd : 1 ≤ d) (v1 : Int32)  (σ : fhM) {o : fhM} (h : f_X11_putFour v1 σ = some o) : fhC fhYF E d miX11_putFour [.ref 0, .int v1] σ none o := by
  refine fhC.of (y := yX11_putFour) (cc := cX11_putFour) (nL := 3) (ret := none) 11 rfl (by decide +kernel) (Nat.le_of_ble_eq_true rfl) ?_
  intro Γ hΓ hR hD hEn
  subst hD; subst hEn
  exact L_X11_putFour_E hE hΓ hd v1  σ _ h hR
set_option maxRecDepth 100000 in
set_option maxHeartbeats 4000000 in
theorem L_X11_feed_E {Γ : fhX} (hE : fhEok fhYF (fhEn Γ)) (hΓ : fhOk fhYF 11 cX11_feed 6 (some .int) Γ) (hd : 2 ≤ fhD Γ) (v1 : Int32) (v2 : Int32) (v3 : Int32) (v4 : Int32) (v5 : Int32)  (σ : fhM) (o : Int32 × fhM) (h : f_X11_feed v1 v2 v3 v4 v5 σ = some o) (hk : (fun o => fhRet Γ (some (.int o.1)) o.2) o) : fhW fhYF Γ 0 [(0, .ref 0), (1, .int v1), (2, .int v2), (3, .int v3), (4, .int v4), (5, .int v5)] [] σ := by
  unfold f_X11_feed at h
  refine fhW.blk fhPF fhLL hΓ [(.aload_n 0, 0), (.getfield 103, 0), (.bipush 20, 20), (.iadd, 0), (.sipush 1600, 1600)] (pc' := 10) (lv' := [(0, .ref 0), (1, .int v1), (2, .int v2), (3, .int v3), (4, .int v4), (5, .int v5)]) (st' := [.int (1600 : Int32), .int ((σ.1 0 1) + (20 : Int32))]) (σ' := σ) (by decide +kernel) rfl rfl rfl ?_
  refine fhW.i_le hΓ (tgt := 19) (show fhbk _ _ (.if_icmp .le (9)) _ = true by decide +kernel) (fun hc => ?_) (fun hc => ?_)
  · rw [if_pos hc] at h
    refine fhW.blk fhPF fhLL hΓ [(.aload_n 0, 0), (.iload_n 1, 0)] (pc' := 21) (lv' := [(0, .ref 0), (1, .int v1), (2, .int v2), (3, .int v3), (4, .int v4), (5, .int v5)]) (st' := [.int v1, .ref 0]) (σ' := σ) (by decide +kernel) rfl rfl rfl ?_
    obtain ⟨q1, hb1, h⟩ := Option.bind_eq_some_iff.mp h
    refine fhW.callv hΓ mvX11_putFour ml_11_110 (t := 0) (ci := 11) (av := [.int v1]) (rest := []) (r := none) (σ' := q1) (T_X11_putFour (E := fhEn Γ) (d := fhD Γ - 1) hE (by omega) v1 σ hb1) (by omega) (by decide +kernel) rfl rfl rfl (Nat.le_of_ble_eq_true rfl) rfl ?_
    show fhW fhYF Γ 24 [(0, .ref 0), (1, .int v1), (2, .int v2), (3, .int v3), (4, .int v4), (5, .int v5)] [] q1
    refine fhW.blk fhPF fhLL hΓ [(.aload_n 0, 0), (.iload_n 2, 0)] (pc' := 26) (lv' := [(0, .ref 0), (1, .int v1), (2, .int v2), (3, .int v3), (4, .int v4), (5, .int v5)]) (st' := [.int v2, .ref 0]) (σ' := q1) (by decide +kernel) rfl rfl rfl ?_
    obtain ⟨q2, hb2, h⟩ := Option.bind_eq_some_iff.mp h
    refine fhW.callv hΓ mvX11_putFour ml_11_110 (t := 0) (ci := 11) (av := [.int v2]) (rest := []) (r := none) (σ' := q2) (T_X11_putFour (E := fhEn Γ) (d := fhD Γ - 1) hE (by omega) v2 q1 hb2) (by omega) (by decide +kernel) rfl rfl rfl (Nat.le_of_ble_eq_true rfl) rfl ?_
    show fhW fhYF Γ 29 [(0, .ref 0), (1, .int v1), (2, .int v2), (3, .int v3), (4, .int v4), (5, .int v5)] [] q2
    refine fhW.blk fhPF fhLL hΓ [(.aload_n 0, 0), (.iload_n 3, 0)] (pc' := 31) (lv' := [(0, .ref 0), (1, .int v1), (2, .int v2), (3, .int v3), (4, .int v4), (5, .int v5)]) (st' := [.int v3, .ref 0]) (σ' := q2) (by decide +kernel) rfl rfl rfl ?_
    obtain ⟨q3, hb3, h⟩ := Option.bind_eq_some_iff.mp h
    refine fhW.callv hΓ mvX11_putFour ml_11_110 (t := 0) (ci := 11) (av := [.int v3]) (rest := []) (r := none) (σ' := q3) (T_X11_putFour (E := fhEn Γ) (d := fhD Γ - 1) hE (by omega) v3 q2 hb3) (by omega) (by decide +kernel) rfl rfl rfl (Nat.le_of_ble_eq_true rfl) rfl ?_
    show fhW fhYF Γ 34 [(0, .ref 0), (1, .int v1), (2, .int v2), (3, .int v3), (4, .int v4), (5, .int v5)] [] q3
    refine fhW.blk fhPF fhLL hΓ [(.aload_n 0, 0), (.iload 4, 0)] (pc' := 37) (lv' := [(0, .ref 0), (1, .int v1), (2, .int v2), (3, .int v3), (4, .int v4), (5, .int v5)]) (st' := [.int v4, .ref 0]) (σ' := q3) (by decide +kernel) rfl rfl rfl ?_
    obtain ⟨q4, hb4, h⟩ := Option.bind_eq_some_iff.mp h
    refine fhW.callv hΓ mvX11_putFour ml_11_110 (t := 0) (ci := 11) (av := [.int v4]) (rest := []) (r := none) (σ' := q4) (T_X11_putFour (E := fhEn Γ) (d := fhD Γ - 1) hE (by omega) v4 q3 hb4) (by omega) (by decide +kernel) rfl rfl rfl (Nat.le_of_ble_eq_true rfl) rfl ?_
    show fhW fhYF Γ 40 [(0, .ref 0), (1, .int v1), (2, .int v2), (3, .int v3), (4, .int v4), (5, .int v5)] [] q4
    refine fhW.blk fhPF fhLL hΓ [(.aload_n 0, 0), (.iload 5, 0)] (pc' := 43) (lv' := [(0, .ref 0), (1, .int v1), (2, .int v2), (3, .int v3), (4, .int v4), (5, .int v5)]) (st' := [.int v5, .ref 0]) (σ' := q4) (by decide +kernel) rfl rfl rfl ?_
    obtain ⟨q5, hb5, h⟩ := Option.bind_eq_some_iff.mp h
    refine fhW.callv hΓ mvX11_putFour ml_11_110 (t := 0) (ci := 11) (av := [.int v5]) (rest := []) (r := none) (σ' := q5) (T_X11_putFour (E := fhEn Γ) (d := fhD Γ - 1) hE (by omega) v5 q4 hb5) (by omega) (by decide +kernel) rfl rfl rfl (Nat.le_of_ble_eq_true rfl) rfl ?_
    show fhW fhYF Γ 46 [(0, .ref 0), (1, .int v1), (2, .int v2), (3, .int v3), (4, .int v4), (5, .int v5)] [] q5
    refine fhW.blk fhPF fhLL hΓ [(.aload_n 0, 0), (.getfield 103, 0)] (pc' := 50) (lv' := [(0, .ref 0), (1, .int v1), (2, .int v2), (3, .int v3), (4, .int v4), (5, .int v5)]) (st' := [.int (q5.1 0 1)]) (σ' := q5) (by decide +kernel) rfl rfl rfl ?_
    have e9 := Option.some.inj h
    subst e9
    exact fhW.iret hΓ (by decide +kernel) hk
  · rw [if_neg hc] at h
    refine fhW.blk fhPF fhLL hΓ [(.aload_n 0, 0), (.iconst 0, 0)] (pc' := 15) (lv' := [(0, .ref 0), (1, .int v1), (2, .int v2), (3, .int v3), (4, .int v4), (5, .int v5)]) (st' := [.int (0 : Int32), .ref 0]) (σ' := σ) (by decide +kernel) rfl rfl rfl ?_
    refine fhW.callv hΓ mvX11_refuse ml_11_106 (t := 0) (ci := 11) (av := [.int (0 : Int32)]) (rest := []) (r := (some (.int (f_X11_refuse (0 : Int32) σ).1))) (σ' := (f_X11_refuse (0 : Int32) σ).2) (T_X11_refuse (E := fhEn Γ) (d := fhD Γ - 1) hE (by omega) (0 : Int32) σ) (by omega) (by decide +kernel) rfl rfl rfl (Nat.le_of_ble_eq_true rfl) rfl ?_
    show fhW fhYF Γ 18 [(0, .ref 0), (1, .int v1), (2, .int v2), (3, .int v3), (4, .int v4), (5, .int v5)] [.int (f_X11_refuse (0 : Int32) σ).1] (f_X11_refuse (0 : Int32) σ).2
    obtain ⟨q6, e1, h⟩ := fhlet_elim h
    rw [← e1]
    have e9 := Option.some.inj h
    subst e9
    exact fhW.iret hΓ (by decide +kernel) hk
set_option maxRecDepth 100000 in
theorem T_X11_feed {E : fhE} {d : Nat} (hE : fhEok fhYF E) (hd : 2 ≤ d) (v1 : Int32) (v2 : Int32) (v3 : Int32) (v4 : Int32) (v5 : Int32)  (σ : fhM) {o : Int32 × fhM} (h : f_X11_feed v1 v2 v3 v4 v5 σ = some o) : fhC fhYF E d miX11_feed [.ref 0, .int v1, .int v2, .int v3, .int v4, .int v5] σ (some (.int o.1)) o.2 := by
  refine fhC.of (y := yX11_feed) (cc := cX11_feed) (nL := 6) (ret := (some .int)) 11 rfl (by decide +kernel) (Nat.le_of_ble_eq_true rfl) ?_
  intro Γ hΓ hR hD hEn
  subst hD; subst hEn
  exact L_X11_feed_E hE hΓ hd v1 v2 v3 v4 v5  σ _ h hR
set_option maxRecDepth 100000 in
set_option maxHeartbeats 4000000 in
theorem L_X11_end_12 {Γ : fhX} (hE : fhEok fhYF (fhEn Γ)) (hΓ : fhOk fhYF 11 cX11_end 2 (some .boolean) Γ) (hd : 2 ≤ fhD Γ)   (σ : fhM) (o : Bool × fhM) (h : f_X11_end_12 σ = o) (hk : (fun o => fhRet Γ (some (.int (fhb o.1))) o.2) o) : fhW fhYF Γ 12 [(0, .ref 0)] [] σ := by
  unfold f_X11_end_12 at h
  refine fhW.blk fhPF fhLL hΓ [(.aload_n 0, 0), (.iconst 0, 0)] (pc' := 14) (lv' := [(0, .ref 0)]) (st' := [.int (0 : Int32), .ref 0]) (σ' := σ) (by decide +kernel) rfl rfl rfl ?_
  refine fhW.callv hΓ mvX11_refuse ml_11_106 (t := 0) (ci := 11) (av := [.int (0 : Int32)]) (rest := []) (r := (some (.int (f_X11_refuse (0 : Int32) σ).1))) (σ' := (f_X11_refuse (0 : Int32) σ).2) (T_X11_refuse (E := fhEn Γ) (d := fhD Γ - 1) hE (by omega) (0 : Int32) σ) (by omega) (by decide +kernel) rfl rfl rfl (Nat.le_of_ble_eq_true rfl) rfl ?_
  show fhW fhYF Γ 17 [(0, .ref 0)] [.int (f_X11_refuse (0 : Int32) σ).1] (f_X11_refuse (0 : Int32) σ).2
  obtain ⟨q1, e1, h⟩ := fhlet_elim h
  rw [← e1]
  refine fhW.blk fhPF fhLL hΓ [(.pop, 0), (.iconst 0, 0)] (pc' := 19) (lv' := [(0, .ref 0)]) (st' := [.int (0 : Int32)]) (σ' := q1.2) (by decide +kernel) rfl rfl rfl ?_
  subst h
  exact fhW.zret (v := false) hΓ (by decide +kernel) hk
set_option maxRecDepth 100000 in
set_option maxHeartbeats 4000000 in
theorem L_X11_end_E {Γ : fhX} (hE : fhEok fhYF (fhEn Γ)) (hΓ : fhOk fhYF 11 cX11_end 2 (some .boolean) Γ) (hd : 2 ≤ fhD Γ) (v1 : Int32)  (σ : fhM) (o : Bool × fhM) (h : f_X11_end v1 σ = o) (hk : (fun o => fhRet Γ (some (.int (fhb o.1))) o.2) o) : fhW fhYF Γ 0 [(0, .ref 0), (1, .int v1)] [] σ := by
  unfold f_X11_end at h
  refine fhW.blk fhPF fhLL hΓ [(.iload_n 1, 0)] (pc' := 1) (lv' := [(0, .ref 0), (1, .int v1)]) (st' := [.int v1]) (σ' := σ) (by decide +kernel) rfl rfl rfl ?_
  refine fhW.z_lt hΓ (tgt := 12) (show fhbk _ _ (.ifCond .lt (11)) _ = true by decide +kernel) (fun hc => ?_) (fun hc => ?_)
  · rw [if_pos hc] at h
    refine fhW.sub (lv' := [(0, .ref 0)]) [0] rfl ?_
    exact L_X11_end_12 hE hΓ hd σ _ h hk
  · rw [if_neg hc] at h
    refine fhW.blk fhPF fhLL hΓ [(.iload_n 1, 0), (.aload_n 0, 0), (.getfield 103, 0)] (pc' := 9) (lv' := [(0, .ref 0), (1, .int v1)]) (st' := [.int (σ.1 0 1), .int v1]) (σ' := σ) (by decide +kernel) rfl rfl rfl ?_
    refine fhW.i_le hΓ (tgt := 20) (show fhbk _ _ (.if_icmp .le (11)) _ = true by decide +kernel) (fun hc => ?_) (fun hc => ?_)
    · rw [if_pos hc] at h
      refine fhW.blk fhPF fhLL hΓ [(.aload_n 0, 0), (.iload_n 1, 0), (.putfield 103, 0), (.iconst 1, 1)] (pc' := 26) (lv' := [(0, .ref 0), (1, .int v1)]) (st' := [.int (1 : Int32)]) (σ' := (fhI σ 0 1 v1)) (by decide +kernel) rfl rfl rfl ?_
      subst h
      exact fhW.zret (v := true) hΓ (by decide +kernel) hk
    · rw [if_neg hc] at h
      refine fhW.sub (lv' := [(0, .ref 0)]) [0] rfl ?_
      exact L_X11_end_12 hE hΓ hd σ _ h hk
set_option maxRecDepth 100000 in
theorem T_X11_end {E : fhE} {d : Nat} (hE : fhEok fhYF E) (hd : 2 ≤ d) (v1 : Int32)  (σ : fhM) : fhC fhYF E d miX11_end [.ref 0, .int v1] σ (some (.int (fhb (f_X11_end v1 σ).1))) (f_X11_end v1 σ).2 := by
  refine fhC.of (y := yX11_end) (cc := cX11_end) (nL := 2) (ret := (some .boolean)) 11 rfl (by decide +kernel) (Nat.le_of_ble_eq_true rfl) ?_
  intro Γ hΓ hR hD hEn
  subst hD; subst hEn
  exact L_X11_end_E hE hΓ hd v1  σ _ rfl hR
set_option maxRecDepth 100000 in
set_option maxHeartbeats 4000000 in
theorem L_X11_takeTape_E {Γ : fhX} (hE : fhEok fhYF (fhEn Γ)) (hΓ : fhOk fhYF 11 cX11_takeTape 2 (some .int) Γ) (hd : 0 ≤ fhD Γ)   (σ : fhM) (o : Int32 × fhM) (h : f_X11_takeTape σ = o) (hk : (fun o => fhRet Γ (some (.int o.1)) o.2) o) : fhW fhYF Γ 0 [(0, .ref 0)] [] σ := by
  unfold f_X11_takeTape at h
  refine fhW.blk fhPF fhLL hΓ [(.aload_n 0, 0), (.getfield 103, 0), (.istore_n 1, 0), (.aload_n 0, 0), (.iconst 0, 0), (.putfield 103, 0), (.iload_n 1, 0)] (pc' := 11) (lv' := [(1, .int (σ.1 0 1)), (0, .ref 0)]) (st' := [.int (σ.1 0 1)]) (σ' := (fhI σ 0 1 (0 : Int32))) (by decide +kernel) rfl rfl rfl ?_
  subst h
  exact fhW.iret hΓ (by decide +kernel) hk
set_option maxRecDepth 100000 in
theorem T_X11_takeTape {E : fhE} {d : Nat} (hE : fhEok fhYF E) (hd : 0 ≤ d)   (σ : fhM) : fhC fhYF E d miX11_takeTape [.ref 0] σ (some (.int (f_X11_takeTape σ).1)) (f_X11_takeTape σ).2 := by
  refine fhC.of (y := yX11_takeTape) (cc := cX11_takeTape) (nL := 2) (ret := (some .int)) 11 rfl (by decide +kernel) (Nat.le_of_ble_eq_true rfl) ?_
  intro Γ hΓ hR hD hEn
  subst hD; subst hEn
  exact L_X11_takeTape_E hE hΓ hd   σ _ rfl hR
set_option maxRecDepth 100000 in
set_option maxHeartbeats 4000000 in
theorem L_X7_forget_E {Γ : fhX} (hE : fhEok fhYF (fhEn Γ)) (hΓ : fhOk fhYF 7 cX7_forget 1 none Γ) (hd : 1 ≤ fhD Γ) (v0 : Nat) (hv0 : fhiP v0 = true) (σ : fhM) (o : fhM) (h : f_X7_forget v0 σ = o) (hk : (fun o => fhRet Γ none o) o) : fhW fhYF Γ 0 [(0, .ref v0)] [] σ := by
  unfold f_X7_forget at h
  refine fhW.blk fhPF fhLL hΓ [(.aload_n 0, 0), (.iconst 0, 0), (.putfield 53, 0), (.aload_n 0, 0), (.iconst 0, 0), (.putfield 66, 0)] (pc' := 10) (lv' := [(0, .ref v0)]) (st' := []) (σ' := (fhI (fhI σ v0 8 (0 : Int32)) v0 9 (0 : Int32))) (by decide +kernel) rfl rfl (by rcases fhiP_or hv0 with rfl | rfl <;> rfl) ?_
  refine fhW.blk fhPF fhLL hΓ [(.aload_n 0, 0), (.iconst 0, 0), (.putfield 69, 0), (.aload_n 0, 0), (.iconst 0, 0), (.putfield 82, 0)] (pc' := 20) (lv' := [(0, .ref v0)]) (st' := []) (σ' := (fhI (fhI (fhI (fhI σ v0 8 (0 : Int32)) v0 9 (0 : Int32)) v0 10 (0 : Int32)) v0 11 (0 : Int32))) (by decide +kernel) rfl rfl (by rcases fhiP_or hv0 with rfl | rfl <;> rfl) ?_
  refine fhW.blk fhPF fhLL hΓ [(.aload_n 0, 0), (.iconst 0, 0), (.putfield 85, 0), (.aload_n 0, 0), (.iconst 0, 0), (.putfield 88, 0)] (pc' := 30) (lv' := [(0, .ref v0)]) (st' := []) (σ' := (fhI (fhI (fhI (fhI (fhI (fhI σ v0 8 (0 : Int32)) v0 9 (0 : Int32)) v0 10 (0 : Int32)) v0 11 (0 : Int32)) v0 12 (0 : Int32)) v0 13 (0 : Int32))) (by decide +kernel) rfl rfl (by rcases fhiP_or hv0 with rfl | rfl <;> rfl) ?_
  refine fhW.blk fhPF fhLL hΓ [(.aload_n 0, 0), (.iconst 0, 0), (.putfield 63, 0), (.aload_n 0, 0), (.iconst 1, 1), (.putfield 91, 0)] (pc' := 40) (lv' := [(0, .ref v0)]) (st' := []) (σ' := (fhI (fhI (fhI (fhI (fhI (fhI (fhI (fhI σ v0 8 (0 : Int32)) v0 9 (0 : Int32)) v0 10 (0 : Int32)) v0 11 (0 : Int32)) v0 12 (0 : Int32)) v0 13 (0 : Int32)) v0 14 (0 : Int32)) v0 6 (1 : Int32))) (by decide +kernel) rfl rfl (by rcases fhiP_or hv0 with rfl | rfl <;> rfl) ?_
  refine fhW.blk fhPF fhLL hΓ [(.aload_n 0, 0), (.getfield 12, 0), (.iconst 0, 0), (.putfield 94, 0), (.aload_n 0, 0), (.getfield 23, 0)] (pc' := 52) (lv' := [(0, .ref v0)]) (st' := [.ref (v0 + 4)]) (σ' := (fhI (fhI (fhI (fhI (fhI (fhI (fhI (fhI (fhI σ v0 8 (0 : Int32)) v0 9 (0 : Int32)) v0 10 (0 : Int32)) v0 11 (0 : Int32)) v0 12 (0 : Int32)) v0 13 (0 : Int32)) v0 14 (0 : Int32)) v0 6 (1 : Int32)) (v0 + 1) 1 (0 : Int32))) (by decide +kernel) rfl rfl (by rcases fhiP_or hv0 with rfl | rfl <;> rfl) ?_
  refine fhW.callv hΓ mvX2_wipe ml_7_97 (t := (v0 + 4)) (ci := 2) (av := []) (rest := []) (r := none) (σ' := (fcW (fhI (fhI (fhI (fhI (fhI (fhI (fhI (fhI (fhI σ v0 8 (0 : Int32)) v0 9 (0 : Int32)) v0 10 (0 : Int32)) v0 11 (0 : Int32)) v0 12 (0 : Int32)) v0 13 (0 : Int32)) v0 14 (0 : Int32)) v0 6 (1 : Int32)) (v0 + 1) 1 (0 : Int32)) (v0 + 4))) (T_X2_wipe (E := fhEn Γ) (d := fhD Γ - 1) hE (by omega) (v0 + 4) (fhiP_ind (p := fun q => fhiC (q + 4) = true) hv0 rfl rfl) (fhI (fhI (fhI (fhI (fhI (fhI (fhI (fhI (fhI σ v0 8 (0 : Int32)) v0 9 (0 : Int32)) v0 10 (0 : Int32)) v0 11 (0 : Int32)) v0 12 (0 : Int32)) v0 13 (0 : Int32)) v0 14 (0 : Int32)) v0 6 (1 : Int32)) (v0 + 1) 1 (0 : Int32))) (by omega) (by decide +kernel) rfl (fhiC_g (fhiP_ind (p := fun q => fhiC (q + 4) = true) hv0 rfl rfl)) rfl (Nat.le_of_ble_eq_true rfl) rfl ?_
  show fhW fhYF Γ 55 [(0, .ref v0)] [] (fcW (fhI (fhI (fhI (fhI (fhI (fhI (fhI (fhI (fhI σ v0 8 (0 : Int32)) v0 9 (0 : Int32)) v0 10 (0 : Int32)) v0 11 (0 : Int32)) v0 12 (0 : Int32)) v0 13 (0 : Int32)) v0 14 (0 : Int32)) v0 6 (1 : Int32)) (v0 + 1) 1 (0 : Int32)) (v0 + 4))
  subst h
  exact fhW.vret hΓ (by decide +kernel) hk
set_option maxRecDepth 100000 in
theorem T_X7_forget {E : fhE} {d : Nat} (hE : fhEok fhYF E) (hd : 1 ≤ d) (v0 : Nat) (hv0 : fhiP v0 = true) (σ : fhM) : fhC fhYF E d miX7_forget [.ref v0] σ none (f_X7_forget v0 σ) := by
  refine fhC.of (y := yX7_forget) (cc := cX7_forget) (nL := 1) (ret := none) 7 rfl (by decide +kernel) (Nat.le_of_ble_eq_true rfl) ?_
  intro Γ hΓ hR hD hEn
  subst hD; subst hEn
  exact L_X7_forget_E hE hΓ hd v0 hv0 σ _ rfl hR
set_option maxRecDepth 100000 in
set_option maxHeartbeats 4000000 in
theorem L_X8_sortOf_14 {Γ : fhX} (hE : fhEok fhYF (fhEn Γ)) (hΓ : fhOk fhYF 8 cX8_sortOf 1 (some .int) Γ) (hd : 0 ≤ fhD Γ) (v0 : Int32)  (σ : fhM) (o : Int32) (h : f_X8_sortOf_14 v0 σ = o) (hk : (fun o => fhRet Γ (some (.int o)) σ) o) : fhW fhYF Γ 14 [(0, .int v0)] [] σ := by
  unfold f_X8_sortOf_14 at h
  refine fhW.blk fhPF fhLL hΓ [(.iload_n 0, 0), (.bipush 48, 48)] (pc' := 17) (lv' := [(0, .int v0)]) (st' := [.int (48 : Int32), .int v0]) (σ' := σ) (by decide +kernel) rfl rfl rfl ?_
  refine fhW.i_lt hΓ (tgt := 30) (show fhbk _ _ (.if_icmp .lt (13)) _ = true by decide +kernel) (fun hc => ?_) (fun hc => ?_)
  · rw [if_pos hc] at h
    refine fhW.blk fhPF fhLL hΓ [(.iconst 3, 3)] (pc' := 31) (lv' := [(0, .int v0)]) (st' := [.int (3 : Int32)]) (σ' := σ) (by decide +kernel) rfl rfl rfl ?_
    subst h
    exact fhW.iret hΓ (by decide +kernel) hk
  · rw [if_neg hc] at h
    refine fhW.blk fhPF fhLL hΓ [(.iload_n 0, 0), (.bipush 57, 57)] (pc' := 23) (lv' := [(0, .int v0)]) (st' := [.int (57 : Int32), .int v0]) (σ' := σ) (by decide +kernel) rfl rfl rfl ?_
    refine fhW.i_gt hΓ (tgt := 30) (show fhbk _ _ (.if_icmp .gt (7)) _ = true by decide +kernel) (fun hc => ?_) (fun hc => ?_)
    · rw [if_pos hc] at h
      refine fhW.blk fhPF fhLL hΓ [(.iconst 3, 3)] (pc' := 31) (lv' := [(0, .int v0)]) (st' := [.int (3 : Int32)]) (σ' := σ) (by decide +kernel) rfl rfl rfl ?_
      subst h
      exact fhW.iret hΓ (by decide +kernel) hk
    · rw [if_neg hc] at h
      refine fhW.blk fhPF fhLL hΓ [(.iconst 2, 2)] (pc' := 27) (lv' := [(0, .int v0)]) (st' := [.int (2 : Int32)]) (σ' := σ) (by decide +kernel) rfl rfl rfl ?_
      refine fhW.goto hΓ (off := 4) (tgt := 31) (by decide +kernel) ?_
      subst h
      exact fhW.iret hΓ (by decide +kernel) hk
set_option maxRecDepth 100000 in
set_option maxHeartbeats 4000000 in
theorem L_X8_sortOf_E {Γ : fhX} (hE : fhEok fhYF (fhEn Γ)) (hΓ : fhOk fhYF 8 cX8_sortOf 1 (some .int) Γ) (hd : 0 ≤ fhD Γ) (v0 : Int32)  (σ : fhM) (o : Int32) (h : f_X8_sortOf v0 σ = o) (hk : (fun o => fhRet Γ (some (.int o)) σ) o) : fhW fhYF Γ 0 [(0, .int v0)] [] σ := by
  unfold f_X8_sortOf at h
  refine fhW.blk fhPF fhLL hΓ [(.iload_n 0, 0), (.bipush 97, 97)] (pc' := 3) (lv' := [(0, .int v0)]) (st' := [.int (97 : Int32), .int v0]) (σ' := σ) (by decide +kernel) rfl rfl rfl ?_
  refine fhW.i_lt hΓ (tgt := 14) (show fhbk _ _ (.if_icmp .lt (11)) _ = true by decide +kernel) (fun hc => ?_) (fun hc => ?_)
  · rw [if_pos hc] at h
    refine fhW.sub (lv' := [(0, .int v0)]) [0] rfl ?_
    exact L_X8_sortOf_14 hE hΓ hd v0 σ _ h hk
  · rw [if_neg hc] at h
    refine fhW.blk fhPF fhLL hΓ [(.iload_n 0, 0), (.bipush 122, 122)] (pc' := 9) (lv' := [(0, .int v0)]) (st' := [.int (122 : Int32), .int v0]) (σ' := σ) (by decide +kernel) rfl rfl rfl ?_
    refine fhW.i_gt hΓ (tgt := 14) (show fhbk _ _ (.if_icmp .gt (5)) _ = true by decide +kernel) (fun hc => ?_) (fun hc => ?_)
    · rw [if_pos hc] at h
      refine fhW.sub (lv' := [(0, .int v0)]) [0] rfl ?_
      exact L_X8_sortOf_14 hE hΓ hd v0 σ _ h hk
    · rw [if_neg hc] at h
      refine fhW.blk fhPF fhLL hΓ [(.iconst 1, 1)] (pc' := 13) (lv' := [(0, .int v0)]) (st' := [.int (1 : Int32)]) (σ' := σ) (by decide +kernel) rfl rfl rfl ?_
      subst h
      exact fhW.iret hΓ (by decide +kernel) hk
set_option maxRecDepth 100000 in
theorem T_X8_sortOf {E : fhE} {d : Nat} (hE : fhEok fhYF E) (hd : 0 ≤ d) (v0 : Int32)  (σ : fhM) : fhC fhYF E d miX8_sortOf [.int v0] σ (some (.int (f_X8_sortOf v0 σ))) σ := by
  refine fhC.of (y := yX8_sortOf) (cc := cX8_sortOf) (nL := 1) (ret := (some .int)) 8 rfl (by decide +kernel) (Nat.le_of_ble_eq_true rfl) ?_
  intro Γ hΓ hR hD hEn
  subst hD; subst hEn
  exact L_X8_sortOf_E hE hΓ hd v0  σ _ rfl hR
set_option maxRecDepth 100000 in
set_option maxHeartbeats 4000000 in
theorem L_X8_packLetters_5 {Γ : fhX} (hE : fhEok fhYF (fhEn Γ)) (hΓ : fhOk fhYF 8 cX8_packLetters 5 (some .int) Γ) (hd : 1 ≤ fhD Γ) (v0 : Nat) (v1 : Int32) (v2 : Int32) (v3 : Int32) (v4 : Int32) (hv0 : fhiC v0 = true) (σ : fhM) (o : (Int32 × Int32) ⊕ (Int32)) (h : f_X8_packLetters_5 v0 v1 v2 v3 v4 σ = some o) (hk : (fhK (fun x => fhW fhYF Γ 5 [(0, .ref v0), (1, .int v1), (2, .int v2), (3, .int x.1), (4, .int x.2)] [] σ) (fun o => fhRet Γ (some (.int o)) σ)) o) : fhW fhYF Γ 5 [(0, .ref v0), (1, .int v1), (2, .int v2), (3, .int v3), (4, .int v4)] [] σ := by
  unfold f_X8_packLetters_5 at h
  refine fhW.blk fhPF fhLL hΓ [(.iload 4, 0), (.iload_n 2, 0)] (pc' := 8) (lv' := [(0, .ref v0), (1, .int v1), (2, .int v2), (3, .int v3), (4, .int v4)]) (st' := [.int v2, .int v4]) (σ' := σ) (by decide +kernel) rfl rfl rfl ?_
  refine fhW.i_ge hΓ (tgt := 46) (show fhbk _ _ (.if_icmp .ge (38)) _ = true by decide +kernel) (fun hc => ?_) (fun hc => ?_)
  · rw [if_pos hc] at h
    refine fhW.blk fhPF fhLL hΓ [(.iload_n 3, 0)] (pc' := 47) (lv' := [(0, .ref v0), (1, .int v1), (2, .int v2), (3, .int v3), (4, .int v4)]) (st' := [.int v3]) (σ' := σ) (by decide +kernel) rfl rfl rfl ?_
    have e9 := Option.some.inj h
    subst e9
    exact fhW.iret hΓ (by decide +kernel) hk
  · rw [if_neg hc] at h
    refine fhW.blk fhPF fhLL hΓ [(.iload_n 2, 0), (.iload_n 1, 0), (.isub, 0), (.bipush 6, 6)] (pc' := 16) (lv' := [(0, .ref v0), (1, .int v1), (2, .int v2), (3, .int v3), (4, .int v4)]) (st' := [.int (6 : Int32), .int (v2 - v1)]) (σ' := σ) (by decide +kernel) rfl rfl rfl ?_
    refine fhW.i_gt hΓ (tgt := 46) (show fhbk _ _ (.if_icmp .gt (30)) _ = true by decide +kernel) (fun hc => ?_) (fun hc => ?_)
    · rw [if_pos hc] at h
      refine fhW.blk fhPF fhLL hΓ [(.iload_n 3, 0)] (pc' := 47) (lv' := [(0, .ref v0), (1, .int v1), (2, .int v2), (3, .int v3), (4, .int v4)]) (st' := [.int v3]) (σ' := σ) (by decide +kernel) rfl rfl rfl ?_
      have e9 := Option.some.inj h
      subst e9
      exact fhW.iret hΓ (by decide +kernel) hk
    · rw [if_neg hc] at h
      refine fhW.blk fhPF fhLL hΓ [(.iload_n 3, 0), (.aload_n 0, 0), (.iload 4, 0)] (pc' := 23) (lv' := [(0, .ref v0), (1, .int v1), (2, .int v2), (3, .int v3), (4, .int v4)]) (st' := [.int v4, .ref v0, .int v3]) (σ' := σ) (by decide +kernel) rfl rfl rfl ?_
      refine fhW.callv hΓ mvX2_get ml_8_36 (t := v0) (ci := 2) (av := [.int v4]) (rest := [.int v3]) (r := (some (.int (fcG σ v0 v4)))) (σ' := σ) (T_X2_get (E := fhEn Γ) (d := fhD Γ - 1) hE (by omega) v0 v4 hv0 σ) (by omega) (by decide +kernel) rfl (fhiC_g hv0) rfl (Nat.le_of_ble_eq_true rfl) rfl ?_
      show fhW fhYF Γ 26 [(0, .ref v0), (1, .int v1), (2, .int v2), (3, .int v3), (4, .int v4)] [.int (fcG σ v0 v4), .int v3] σ
      refine fhW.blk fhPF fhLL hΓ [(.bipush 97, 97), (.isub, 0), (.iconst 1, 1), (.iadd, 0), (.iconst 5, 5), (.iload 4, 0), (.iload_n 1, 0), (.isub, 0), (.imul, 0), (.ishl, 0), (.ior, 0), (.istore_n 3, 0)] (pc' := 40) (lv' := [(3, .int (v3 ||| ((((fcG σ v0 v4) - (97 : Int32)) + (1 : Int32)) <<< (((5 : Int32) * (v4 - v1)) &&& 31)))), (0, .ref v0), (1, .int v1), (2, .int v2), (4, .int v4)]) (st' := []) (σ' := σ) (by decide +kernel) rfl rfl rfl ?_
      obtain ⟨w3_1, e1, h⟩ := fhlet_elim h
      rw [← e1]
      refine fhW.blk fhPF fhLL hΓ [(.iinc 4 1, 1)] (pc' := 43) (lv' := [(4, .int (v4 + (1 : Int32))), (3, .int w3_1), (0, .ref v0), (1, .int v1), (2, .int v2)]) (st' := []) (σ' := σ) (by decide +kernel) rfl rfl rfl ?_
      refine fhW.goto hΓ (off := (-38)) (tgt := 5) (by decide +kernel) ?_
      refine fhW.sub (lv' := [(0, .ref v0), (1, .int v1), (2, .int v2), (3, .int w3_1), (4, .int (v4 + (1 : Int32)))]) [2, 3, 4, 1, 0] rfl ?_
      have e9 := Option.some.inj h
      subst e9
      exact hk
set_option maxRecDepth 100000 in
set_option maxHeartbeats 4000000 in
theorem L_X8_packLetters_E {Γ : fhX} (hE : fhEok fhYF (fhEn Γ)) (hΓ : fhOk fhYF 8 cX8_packLetters 5 (some .int) Γ) (hd : 1 ≤ fhD Γ) (v0 : Nat) (v1 : Int32) (v2 : Int32) (hv0 : fhiC v0 = true) (σ : fhM) (o : Int32) (h : f_X8_packLetters v0 v1 v2 σ = some o) (hk : (fun o => fhRet Γ (some (.int o)) σ) o) : fhW fhYF Γ 0 [(0, .ref v0), (1, .int v1), (2, .int v2)] [] σ := by
  unfold f_X8_packLetters at h
  refine fhW.blk fhPF fhLL hΓ [(.iconst 0, 0), (.istore_n 3, 0), (.iload_n 1, 0), (.istore 4, 0)] (pc' := 5) (lv' := [(4, .int v1), (3, .int (0 : Int32)), (0, .ref v0), (1, .int v1), (2, .int v2)]) (st' := []) (σ' := σ) (by decide +kernel) rfl rfl rfl ?_
  refine fhW.sub (lv' := [(0, .ref v0), (1, .int v1), (2, .int v2), (3, .int (0 : Int32)), (4, .int v1)]) [2, 3, 4, 1, 0] rfl ?_
  exact fhlp_ok (W := (fun x => fhW fhYF Γ 5 [(0, .ref v0), (1, .int v1), (2, .int v2), (3, .int x.1), (4, .int x.2)] [] σ)) (B := (fun o => fhRet Γ (some (.int o)) σ)) (fun x o h hk => L_X8_packLetters_5 hE hΓ hd v0 v1 v2 x.1 x.2 hv0 σ o h hk) ((0 : Int32), v1) _ h hk
set_option maxRecDepth 100000 in
theorem T_X8_packLetters {E : fhE} {d : Nat} (hE : fhEok fhYF E) (hd : 1 ≤ d) (v0 : Nat) (v1 : Int32) (v2 : Int32) (hv0 : fhiC v0 = true) (σ : fhM) {o : Int32} (h : f_X8_packLetters v0 v1 v2 σ = some o) : fhC fhYF E d miX8_packLetters [.ref v0, .int v1, .int v2] σ (some (.int o)) σ := by
  refine fhC.of (y := yX8_packLetters) (cc := cX8_packLetters) (nL := 5) (ret := (some .int)) 8 rfl (by decide +kernel) (Nat.le_of_ble_eq_true rfl) ?_
  intro Γ hΓ hR hD hEn
  subst hD; subst hEn
  exact L_X8_packLetters_E hE hΓ hd v0 v1 v2 hv0 σ _ h hR

