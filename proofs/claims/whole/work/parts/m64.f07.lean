set_option maxRecDepth 100000 in
set_option maxHeartbeats 4000000 in
theorem L_X10_judge_105 {Γ : fhX} (hE : fhEok fhYF (fhEn Γ)) (hΓ : fhOk fhYF 10 cX10_judge 4 (some .int) Γ) (hd : 0 ≤ fhD Γ) (v3 : Int32)  (σ : fhM) (o : Int32) (h : f_X10_judge_105 v3 σ = o) (hk : (fun o => fhRet Γ (some (.int o)) σ) o) : fhW fhYF Γ 105 [(3, .int v3)] [] σ := by
  unfold f_X10_judge_105 at h
  refine fhW.blk fhPF fhLL hΓ [(.iload_n 3, 0)] (pc' := 106) (lv' := [(3, .int v3)]) (st' := [.int v3]) (σ' := σ) (by decide +kernel) rfl rfl rfl ?_
  refine fhW.z_eq hΓ (tgt := 113) (show fhbk _ _ (.ifCond .eq (7)) _ = true by decide +kernel) (fun hc => ?_) (fun hc => ?_)
  · rw [if_pos hc] at h
    refine fhW.blk fhPF fhLL hΓ [(.iconst 0, 0)] (pc' := 114) (lv' := [(3, .int v3)]) (st' := [.int (0 : Int32)]) (σ' := σ) (by decide +kernel) rfl rfl rfl ?_
    subst h
    exact fhW.iret hΓ (by decide +kernel) hk
  · rw [if_neg hc] at h
    refine fhW.blk fhPF fhLL hΓ [(.iconst 1, 1)] (pc' := 110) (lv' := [(3, .int v3)]) (st' := [.int (1 : Int32)]) (σ' := σ) (by decide +kernel) rfl rfl rfl ?_
    refine fhW.goto hΓ (off := 4) (tgt := 114) (by decide +kernel) ?_
    subst h
    exact fhW.iret hΓ (by decide +kernel) hk
set_option maxRecDepth 100000 in
set_option maxHeartbeats 4000000 in
theorem L_X10_judge_104 {Γ : fhX} (hE : fhEok fhYF (fhEn Γ)) (hΓ : fhOk fhYF 10 cX10_judge 4 (some .int) Γ) (hd : 0 ≤ fhD Γ) (s0 : Int32)  (σ : fhM) (o : Int32) (h : f_X10_judge_104 s0 σ = o) (hk : (fun o => fhRet Γ (some (.int o)) σ) o) : fhW fhYF Γ 104 [] [.int s0] σ := by
  unfold f_X10_judge_104 at h
  refine fhW.blk fhPF fhLL hΓ [(.istore_n 3, 0)] (pc' := 105) (lv' := [(3, .int s0)]) (st' := []) (σ' := σ) (by decide +kernel) rfl rfl rfl ?_
  refine fhW.sub (lv' := [(3, .int s0)]) [0] rfl ?_
  exact L_X10_judge_105 hE hΓ hd s0 σ _ h hk
set_option maxRecDepth 100000 in
set_option maxHeartbeats 4000000 in
theorem L_X10_judge_99 {Γ : fhX} (hE : fhEok fhYF (fhEn Γ)) (hΓ : fhOk fhYF 10 cX10_judge 4 (some .int) Γ) (hd : 0 ≤ fhD Γ)   (σ : fhM) (o : Int32) (h : f_X10_judge_99 σ = o) (hk : (fun o => fhRet Γ (some (.int o)) σ) o) : fhW fhYF Γ 99 [] [] σ := by
  unfold f_X10_judge_99 at h
  refine fhW.blk fhPF fhLL hΓ [(.iconst 1, 1)] (pc' := 100) (lv' := []) (st' := [.int (1 : Int32)]) (σ' := σ) (by decide +kernel) rfl rfl rfl ?_
  refine fhW.goto hΓ (off := 4) (tgt := 104) (by decide +kernel) ?_
  refine fhW.sub (lv' := []) [] rfl ?_
  exact L_X10_judge_104 hE hΓ hd (1 : Int32) σ _ h hk
set_option maxRecDepth 100000 in
set_option maxHeartbeats 4000000 in
theorem L_X10_judge_42 {Γ : fhX} (hE : fhEok fhYF (fhEn Γ)) (hΓ : fhOk fhYF 10 cX10_judge 4 (some .int) Γ) (hd : 0 ≤ fhD Γ) (s0 : Int32)  (σ : fhM) (o : Int32) (h : f_X10_judge_42 s0 σ = o) (hk : (fun o => fhRet Γ (some (.int o)) σ) o) : fhW fhYF Γ 42 [] [.int s0] σ := by
  unfold f_X10_judge_42 at h
  refine fhW.blk fhPF fhLL hΓ [(.istore_n 3, 0)] (pc' := 43) (lv' := [(3, .int s0)]) (st' := []) (σ' := σ) (by decide +kernel) rfl rfl rfl ?_
  refine fhW.goto hΓ (off := 62) (tgt := 105) (by decide +kernel) ?_
  refine fhW.sub (lv' := [(3, .int s0)]) [0] rfl ?_
  exact L_X10_judge_105 hE hΓ hd s0 σ _ h hk
set_option maxRecDepth 100000 in
set_option maxHeartbeats 4000000 in
theorem L_X10_judge_56 {Γ : fhX} (hE : fhEok fhYF (fhEn Γ)) (hΓ : fhOk fhYF 10 cX10_judge 4 (some .int) Γ) (hd : 0 ≤ fhD Γ) (s0 : Int32)  (σ : fhM) (o : Int32) (h : f_X10_judge_56 s0 σ = o) (hk : (fun o => fhRet Γ (some (.int o)) σ) o) : fhW fhYF Γ 56 [] [.int s0] σ := by
  unfold f_X10_judge_56 at h
  refine fhW.blk fhPF fhLL hΓ [(.istore_n 3, 0)] (pc' := 57) (lv' := [(3, .int s0)]) (st' := []) (σ' := σ) (by decide +kernel) rfl rfl rfl ?_
  refine fhW.goto hΓ (off := 48) (tgt := 105) (by decide +kernel) ?_
  refine fhW.sub (lv' := [(3, .int s0)]) [0] rfl ?_
  exact L_X10_judge_105 hE hΓ hd s0 σ _ h hk
set_option maxRecDepth 100000 in
set_option maxHeartbeats 4000000 in
theorem L_X10_judge_70 {Γ : fhX} (hE : fhEok fhYF (fhEn Γ)) (hΓ : fhOk fhYF 10 cX10_judge 4 (some .int) Γ) (hd : 0 ≤ fhD Γ) (s0 : Int32)  (σ : fhM) (o : Int32) (h : f_X10_judge_70 s0 σ = o) (hk : (fun o => fhRet Γ (some (.int o)) σ) o) : fhW fhYF Γ 70 [] [.int s0] σ := by
  unfold f_X10_judge_70 at h
  refine fhW.blk fhPF fhLL hΓ [(.istore_n 3, 0)] (pc' := 71) (lv' := [(3, .int s0)]) (st' := []) (σ' := σ) (by decide +kernel) rfl rfl rfl ?_
  refine fhW.goto hΓ (off := 34) (tgt := 105) (by decide +kernel) ?_
  refine fhW.sub (lv' := [(3, .int s0)]) [0] rfl ?_
  exact L_X10_judge_105 hE hΓ hd s0 σ _ h hk
set_option maxRecDepth 100000 in
set_option maxHeartbeats 4000000 in
theorem L_X10_judge_87 {Γ : fhX} (hE : fhEok fhYF (fhEn Γ)) (hΓ : fhOk fhYF 10 cX10_judge 4 (some .int) Γ) (hd : 0 ≤ fhD Γ) (s0 : Int32)  (σ : fhM) (o : Int32) (h : f_X10_judge_87 s0 σ = o) (hk : (fun o => fhRet Γ (some (.int o)) σ) o) : fhW fhYF Γ 87 [] [.int s0] σ := by
  unfold f_X10_judge_87 at h
  refine fhW.blk fhPF fhLL hΓ [(.istore_n 3, 0)] (pc' := 88) (lv' := [(3, .int s0)]) (st' := []) (σ' := σ) (by decide +kernel) rfl rfl rfl ?_
  refine fhW.goto hΓ (off := 17) (tgt := 105) (by decide +kernel) ?_
  refine fhW.sub (lv' := [(3, .int s0)]) [0] rfl ?_
  exact L_X10_judge_105 hE hΓ hd s0 σ _ h hk
set_option maxRecDepth 100000 in
set_option maxHeartbeats 4000000 in
theorem L_X10_judge_86 {Γ : fhX} (hE : fhEok fhYF (fhEn Γ)) (hΓ : fhOk fhYF 10 cX10_judge 4 (some .int) Γ) (hd : 0 ≤ fhD Γ)   (σ : fhM) (o : Int32) (h : f_X10_judge_86 σ = o) (hk : (fun o => fhRet Γ (some (.int o)) σ) o) : fhW fhYF Γ 86 [] [] σ := by
  unfold f_X10_judge_86 at h
  refine fhW.blk fhPF fhLL hΓ [(.iconst 0, 0)] (pc' := 87) (lv' := []) (st' := [.int (0 : Int32)]) (σ' := σ) (by decide +kernel) rfl rfl rfl ?_
  refine fhW.sub (lv' := []) [] rfl ?_
  exact L_X10_judge_87 hE hΓ hd (0 : Int32) σ _ h hk
set_option maxRecDepth 100000 in
set_option maxHeartbeats 4000000 in
theorem L_X10_judge_E {Γ : fhX} (hE : fhEok fhYF (fhEn Γ)) (hΓ : fhOk fhYF 10 cX10_judge 4 (some .int) Γ) (hd : 0 ≤ fhD Γ) (v0 : Int32) (v1 : Int32) (v2 : Int32)  (σ : fhM) (o : Int32) (h : f_X10_judge v0 v1 v2 σ = o) (hk : (fun o => fhRet Γ (some (.int o)) σ) o) : fhW fhYF Γ 0 [(0, .int v0), (1, .int v1), (2, .int v2)] [] σ := by
  unfold f_X10_judge at h
  refine fhW.blk fhPF fhLL hΓ [(.iload_n 0, 0)] (pc' := 1) (lv' := [(0, .int v0), (1, .int v1), (2, .int v2)]) (st' := [.int v0]) (σ' := σ) (by decide +kernel) rfl rfl rfl ?_
  refine fhW.tsw hΓ (dflt := 90) (lo := 10) (hi := 13) (offs := #[31, 45, 59, 73]) (len := 31) (td := 91) [(10, 32), (11, 46), (12, 60), (13, 74)] (by decide +kernel) ?_
  refine fhsw_c (fun hc => ?_) (fun hc => ?_)
  · rw [if_pos hc] at h
    refine fhW.blk fhPF fhLL hΓ [(.iload_n 1, 0), (.iload_n 2, 0)] (pc' := 34) (lv' := [(0, .int v0), (1, .int v1), (2, .int v2)]) (st' := [.int v2, .int v1]) (σ' := σ) (by decide +kernel) rfl rfl rfl ?_
    refine fhW.i_ge hΓ (tgt := 41) (show fhbk _ _ (.if_icmp .ge (7)) _ = true by decide +kernel) (fun hc => ?_) (fun hc => ?_)
    · simp only [if_pos hc] at h
      refine fhW.blk fhPF fhLL hΓ [(.iconst 0, 0)] (pc' := 42) (lv' := [(0, .int v0), (1, .int v1), (2, .int v2)]) (st' := [.int (0 : Int32)]) (σ' := σ) (by decide +kernel) rfl rfl rfl ?_
      refine fhW.sub (lv' := []) [] rfl ?_
      exact L_X10_judge_42 hE hΓ hd (0 : Int32) σ _ h hk
    · simp only [if_neg hc] at h
      refine fhW.blk fhPF fhLL hΓ [(.iconst 1, 1)] (pc' := 38) (lv' := [(0, .int v0), (1, .int v1), (2, .int v2)]) (st' := [.int (1 : Int32)]) (σ' := σ) (by decide +kernel) rfl rfl rfl ?_
      refine fhW.goto hΓ (off := 4) (tgt := 42) (by decide +kernel) ?_
      refine fhW.sub (lv' := []) [] rfl ?_
      exact L_X10_judge_42 hE hΓ hd (1 : Int32) σ _ h hk
  rw [if_neg hc] at h
  refine fhsw_c (fun hc => ?_) (fun hc => ?_)
  · rw [if_pos hc] at h
    refine fhW.blk fhPF fhLL hΓ [(.iload_n 1, 0), (.iload_n 2, 0)] (pc' := 48) (lv' := [(0, .int v0), (1, .int v1), (2, .int v2)]) (st' := [.int v2, .int v1]) (σ' := σ) (by decide +kernel) rfl rfl rfl ?_
    refine fhW.i_le hΓ (tgt := 55) (show fhbk _ _ (.if_icmp .le (7)) _ = true by decide +kernel) (fun hc => ?_) (fun hc => ?_)
    · simp only [if_pos hc] at h
      refine fhW.blk fhPF fhLL hΓ [(.iconst 0, 0)] (pc' := 56) (lv' := [(0, .int v0), (1, .int v1), (2, .int v2)]) (st' := [.int (0 : Int32)]) (σ' := σ) (by decide +kernel) rfl rfl rfl ?_
      refine fhW.sub (lv' := []) [] rfl ?_
      exact L_X10_judge_56 hE hΓ hd (0 : Int32) σ _ h hk
    · simp only [if_neg hc] at h
      refine fhW.blk fhPF fhLL hΓ [(.iconst 1, 1)] (pc' := 52) (lv' := [(0, .int v0), (1, .int v1), (2, .int v2)]) (st' := [.int (1 : Int32)]) (σ' := σ) (by decide +kernel) rfl rfl rfl ?_
      refine fhW.goto hΓ (off := 4) (tgt := 56) (by decide +kernel) ?_
      refine fhW.sub (lv' := []) [] rfl ?_
      exact L_X10_judge_56 hE hΓ hd (1 : Int32) σ _ h hk
  rw [if_neg hc] at h
  refine fhsw_c (fun hc => ?_) (fun hc => ?_)
  · rw [if_pos hc] at h
    refine fhW.blk fhPF fhLL hΓ [(.iload_n 1, 0), (.iload_n 2, 0)] (pc' := 62) (lv' := [(0, .int v0), (1, .int v1), (2, .int v2)]) (st' := [.int v2, .int v1]) (σ' := σ) (by decide +kernel) rfl rfl rfl ?_
    refine fhW.i_ne hΓ (tgt := 69) (show fhbk _ _ (.if_icmp .ne (7)) _ = true by decide +kernel) (fun hc => ?_) (fun hc => ?_)
    · simp only [if_neg hc] at h
      refine fhW.blk fhPF fhLL hΓ [(.iconst 0, 0)] (pc' := 70) (lv' := [(0, .int v0), (1, .int v1), (2, .int v2)]) (st' := [.int (0 : Int32)]) (σ' := σ) (by decide +kernel) rfl rfl rfl ?_
      refine fhW.sub (lv' := []) [] rfl ?_
      exact L_X10_judge_70 hE hΓ hd (0 : Int32) σ _ h hk
    · simp only [if_pos hc] at h
      refine fhW.blk fhPF fhLL hΓ [(.iconst 1, 1)] (pc' := 66) (lv' := [(0, .int v0), (1, .int v1), (2, .int v2)]) (st' := [.int (1 : Int32)]) (σ' := σ) (by decide +kernel) rfl rfl rfl ?_
      refine fhW.goto hΓ (off := 4) (tgt := 70) (by decide +kernel) ?_
      refine fhW.sub (lv' := []) [] rfl ?_
      exact L_X10_judge_70 hE hΓ hd (1 : Int32) σ _ h hk
  rw [if_neg hc] at h
  refine fhsw_c (fun hc => ?_) (fun hc => ?_)
  · rw [if_pos hc] at h
    refine fhW.blk fhPF fhLL hΓ [(.iload_n 1, 0)] (pc' := 75) (lv' := [(0, .int v0), (1, .int v1), (2, .int v2)]) (st' := [.int v1]) (σ' := σ) (by decide +kernel) rfl rfl rfl ?_
    refine fhW.z_eq hΓ (tgt := 86) (show fhbk _ _ (.ifCond .eq (11)) _ = true by decide +kernel) (fun hc => ?_) (fun hc => ?_)
    · rw [if_pos hc] at h
      refine fhW.sub (lv' := []) [] rfl ?_
      exact L_X10_judge_86 hE hΓ hd σ _ h hk
    · rw [if_neg hc] at h
      refine fhW.blk fhPF fhLL hΓ [(.iload_n 2, 0)] (pc' := 79) (lv' := [(0, .int v0), (1, .int v1), (2, .int v2)]) (st' := [.int v2]) (σ' := σ) (by decide +kernel) rfl rfl rfl ?_
      refine fhW.z_eq hΓ (tgt := 86) (show fhbk _ _ (.ifCond .eq (7)) _ = true by decide +kernel) (fun hc => ?_) (fun hc => ?_)
      · rw [if_pos hc] at h
        refine fhW.sub (lv' := []) [] rfl ?_
        exact L_X10_judge_86 hE hΓ hd σ _ h hk
      · rw [if_neg hc] at h
        refine fhW.blk fhPF fhLL hΓ [(.iconst 1, 1)] (pc' := 83) (lv' := [(0, .int v0), (1, .int v1), (2, .int v2)]) (st' := [.int (1 : Int32)]) (σ' := σ) (by decide +kernel) rfl rfl rfl ?_
        refine fhW.goto hΓ (off := 4) (tgt := 87) (by decide +kernel) ?_
        refine fhW.sub (lv' := []) [] rfl ?_
        exact L_X10_judge_87 hE hΓ hd (1 : Int32) σ _ h hk
  rw [if_neg hc] at h
  refine fhsw_n ?_
  refine fhW.blk fhPF fhLL hΓ [(.iload_n 1, 0)] (pc' := 92) (lv' := [(0, .int v0), (1, .int v1), (2, .int v2)]) (st' := [.int v1]) (σ' := σ) (by decide +kernel) rfl rfl rfl ?_
  refine fhW.z_ne hΓ (tgt := 99) (show fhbk _ _ (.ifCond .ne (7)) _ = true by decide +kernel) (fun hc => ?_) (fun hc => ?_)
  · rw [if_neg hc] at h
    refine fhW.sub (lv' := []) [] rfl ?_
    exact L_X10_judge_99 hE hΓ hd σ _ h hk
  · rw [if_pos hc] at h
    refine fhW.blk fhPF fhLL hΓ [(.iload_n 2, 0)] (pc' := 96) (lv' := [(0, .int v0), (1, .int v1), (2, .int v2)]) (st' := [.int v2]) (σ' := σ) (by decide +kernel) rfl rfl rfl ?_
    refine fhW.z_eq hΓ (tgt := 103) (show fhbk _ _ (.ifCond .eq (7)) _ = true by decide +kernel) (fun hc => ?_) (fun hc => ?_)
    · rw [if_pos hc] at h
      refine fhW.blk fhPF fhLL hΓ [(.iconst 0, 0)] (pc' := 104) (lv' := [(0, .int v0), (1, .int v1), (2, .int v2)]) (st' := [.int (0 : Int32)]) (σ' := σ) (by decide +kernel) rfl rfl rfl ?_
      refine fhW.sub (lv' := []) [] rfl ?_
      exact L_X10_judge_104 hE hΓ hd (0 : Int32) σ _ h hk
    · rw [if_neg hc] at h
      refine fhW.sub (lv' := []) [] rfl ?_
      exact L_X10_judge_99 hE hΓ hd σ _ h hk
set_option maxRecDepth 100000 in
theorem T_X10_judge {E : fhE} {d : Nat} (hE : fhEok fhYF E) (hd : 0 ≤ d) (v0 : Int32) (v1 : Int32) (v2 : Int32)  (σ : fhM) : fhC fhYF E d miX10_judge [.int v0, .int v1, .int v2] σ (some (.int (f_X10_judge v0 v1 v2 σ))) σ := by
  refine fhC.of (y := yX10_judge) (cc := cX10_judge) (nL := 4) (ret := (some .int)) 10 rfl (by decide +kernel) (Nat.le_of_ble_eq_true rfl) ?_
  intro Γ hΓ hR hD hEn
  subst hD; subst hEn
  exact L_X10_judge_E hE hΓ hd v0 v1 v2  σ _ rfl hR
set_option maxRecDepth 100000 in
set_option maxHeartbeats 4000000 in
theorem L_X10_work_141 {Γ : fhX} (hE : fhEok fhYF (fhEn Γ)) (hΓ : fhOk fhYF 10 cX10_work 6 none Γ) (hd : 3 ≤ fhD Γ) (s0 : Int32)  (σ : fhM) (o : fhM) (h : f_X10_work_141 s0 σ = some o) (hk : (fun o => fhRet Γ none o) o) : fhW fhYF Γ 141 [] [.int s0, .ref 10] σ := by
  unfold f_X10_work_141 at h
  refine fhW.callv hΓ mvX10_push ml_10_92 (t := 10) (ci := 10) (av := [.int s0]) (rest := []) (r := none) (σ' := (f_X10_push s0 σ)) (T_X10_push (E := fhEn Γ) (d := fhD Γ - 1) hE (by omega) s0 σ) (by omega) (by decide +kernel) rfl rfl rfl (Nat.le_of_ble_eq_true rfl) rfl ?_
  show fhW fhYF Γ 144 [] [] (f_X10_push s0 σ)
  obtain ⟨q10, e1, h⟩ := fhlet_elim h
  rw [← e1]
  have e9 := Option.some.inj h
  subst e9
  exact fhW.vret hΓ (by decide +kernel) hk
set_option maxRecDepth 100000 in
set_option maxHeartbeats 4000000 in
theorem L_X10_work_84 {Γ : fhX} (hE : fhEok fhYF (fhEn Γ)) (hΓ : fhOk fhYF 10 cX10_work 6 none Γ) (hd : 3 ≤ fhD Γ) (s0 : Int32)  (σ : fhM) (o : fhM) (h : f_X10_work_84 s0 σ = some o) (hk : (fun o => fhRet Γ none o) o) : fhW fhYF Γ 84 [] [.int s0, .ref 10] σ := by
  unfold f_X10_work_84 at h
  refine fhW.callv hΓ mvX10_push ml_10_92 (t := 10) (ci := 10) (av := [.int s0]) (rest := []) (r := none) (σ' := (f_X10_push s0 σ)) (T_X10_push (E := fhEn Γ) (d := fhD Γ - 1) hE (by omega) s0 σ) (by omega) (by decide +kernel) rfl rfl rfl (Nat.le_of_ble_eq_true rfl) rfl ?_
  show fhW fhYF Γ 87 [] [] (f_X10_push s0 σ)
  obtain ⟨q9, e2, h⟩ := fhlet_elim h
  rw [← e2]
  refine fhW.goto hΓ (off := 57) (tgt := 144) (by decide +kernel) ?_
  have e9 := Option.some.inj h
  subst e9
  exact fhW.vret hΓ (by decide +kernel) hk
set_option maxRecDepth 100000 in
set_option maxHeartbeats 4000000 in
theorem L_X10_work_83 {Γ : fhX} (hE : fhEok fhYF (fhEn Γ)) (hΓ : fhOk fhYF 10 cX10_work 6 none Γ) (hd : 3 ≤ fhD Γ)   (σ : fhM) (o : fhM) (h : f_X10_work_83 σ = some o) (hk : (fun o => fhRet Γ none o) o) : fhW fhYF Γ 83 [] [.ref 10] σ := by
  unfold f_X10_work_83 at h
  refine fhW.blk fhPF fhLL hΓ [(.iconst 0, 0)] (pc' := 84) (lv' := []) (st' := [.int (0 : Int32), .ref 10]) (σ' := σ) (by decide +kernel) rfl rfl rfl ?_
  refine fhW.sub (lv' := []) [] rfl ?_
  exact L_X10_work_84 hE hΓ hd (0 : Int32) σ _ h hk
set_option maxRecDepth 100000 in
set_option maxHeartbeats 4000000 in
theorem L_X10_work_E {Γ : fhX} (hE : fhEok fhYF (fhEn Γ)) (hΓ : fhOk fhYF 10 cX10_work 6 none Γ) (hd : 3 ≤ fhD Γ) (v1 : Int32) (v2 : Int32)  (σ : fhM) (o : fhM) (h : f_X10_work v1 v2 σ = some o) (hk : (fun o => fhRet Γ none o) o) : fhW fhYF Γ 0 [(0, .ref 10), (1, .int v1), (2, .int v2)] [] σ := by
  unfold f_X10_work at h
  refine fhW.blk fhPF fhLL hΓ [(.iload_n 1, 0)] (pc' := 1) (lv' := [(0, .ref 10), (1, .int v1), (2, .int v2)]) (st' := [.int v1]) (σ' := σ) (by decide +kernel) rfl rfl rfl ?_
  refine fhW.tsw hΓ (dflt := 102) (lo := 0) (hi := 3) (offs := #[31, 39, 54, 89]) (len := 31) (td := 103) [(0, 32), (1, 40), (2, 55), (3, 90)] (by decide +kernel) ?_
  refine fhsw_c (fun hc => ?_) (fun hc => ?_)
  · rw [if_pos hc] at h
    refine fhW.blk fhPF fhLL hΓ [(.aload_n 0, 0), (.iload_n 2, 0)] (pc' := 34) (lv' := [(0, .ref 10), (1, .int v1), (2, .int v2)]) (st' := [.int v2, .ref 10]) (σ' := σ) (by decide +kernel) rfl rfl rfl ?_
    refine fhW.callv hΓ mvX10_push ml_10_92 (t := 10) (ci := 10) (av := [.int v2]) (rest := []) (r := none) (σ' := (f_X10_push v2 σ)) (T_X10_push (E := fhEn Γ) (d := fhD Γ - 1) hE (by omega) v2 σ) (by omega) (by decide +kernel) rfl rfl rfl (Nat.le_of_ble_eq_true rfl) rfl ?_
    show fhW fhYF Γ 37 [(0, .ref 10), (1, .int v1), (2, .int v2)] [] (f_X10_push v2 σ)
    obtain ⟨q1, e3, h⟩ := fhlet_elim h
    rw [← e3]
    refine fhW.goto hΓ (off := 107) (tgt := 144) (by decide +kernel) ?_
    have e9 := Option.some.inj h
    subst e9
    exact fhW.vret hΓ (by decide +kernel) hk
  rw [if_neg hc] at h
  refine fhsw_c (fun hc => ?_) (fun hc => ?_)
  · rw [if_pos hc] at h
    refine fhW.blk fhPF fhLL hΓ [(.aload_n 0, 0), (.aload_n 0, 0), (.getfield 14, 0), (.iload_n 2, 0)] (pc' := 46) (lv' := [(0, .ref 10), (1, .int v1), (2, .int v2)]) (st' := [.int v2, .ref 11, .ref 10]) (σ' := σ) (by decide +kernel) rfl rfl rfl ?_
    refine fhW.callv hΓ mvX2_get ml_10_30 (t := 11) (ci := 2) (av := [.int v2]) (rest := [.ref 10]) (r := (some (.int (fcG σ 11 v2)))) (σ' := σ) (T_X2_get (E := fhEn Γ) (d := fhD Γ - 1) hE (by omega) 11 v2 rfl σ) (by omega) (by decide +kernel) rfl rfl rfl (Nat.le_of_ble_eq_true rfl) rfl ?_
    show fhW fhYF Γ 49 [(0, .ref 10), (1, .int v1), (2, .int v2)] [.int (fcG σ 11 v2), .ref 10] σ
    refine fhW.callv hΓ mvX10_push ml_10_92 (t := 10) (ci := 10) (av := [.int (fcG σ 11 v2)]) (rest := []) (r := none) (σ' := (f_X10_push (fcG σ 11 v2) σ)) (T_X10_push (E := fhEn Γ) (d := fhD Γ - 1) hE (by omega) (fcG σ 11 v2) σ) (by omega) (by decide +kernel) rfl rfl rfl (Nat.le_of_ble_eq_true rfl) rfl ?_
    show fhW fhYF Γ 52 [(0, .ref 10), (1, .int v1), (2, .int v2)] [] (f_X10_push (fcG σ 11 v2) σ)
    obtain ⟨q2, e4, h⟩ := fhlet_elim h
    rw [← e4]
    refine fhW.goto hΓ (off := 92) (tgt := 144) (by decide +kernel) ?_
    have e9 := Option.some.inj h
    subst e9
    exact fhW.vret hΓ (by decide +kernel) hk
  rw [if_neg hc] at h
  refine fhsw_c (fun hc => ?_) (fun hc => ?_)
  · rw [if_pos hc] at h
    refine fhW.blk fhPF fhLL hΓ [(.aload_n 0, 0)] (pc' := 56) (lv' := [(0, .ref 10), (1, .int v1), (2, .int v2)]) (st' := [.ref 10]) (σ' := σ) (by decide +kernel) rfl rfl rfl ?_
    refine fhW.callv hΓ mvX10_pop ml_10_88 (t := 10) (ci := 10) (av := []) (rest := []) (r := (some (.int (f_X10_pop σ).1))) (σ' := (f_X10_pop σ).2) (T_X10_pop (E := fhEn Γ) (d := fhD Γ - 1) hE (by omega) σ) (by omega) (by decide +kernel) rfl rfl rfl (Nat.le_of_ble_eq_true rfl) rfl ?_
    show fhW fhYF Γ 59 [(0, .ref 10), (1, .int v1), (2, .int v2)] [.int (f_X10_pop σ).1] (f_X10_pop σ).2
    obtain ⟨q3, e5, h⟩ := fhlet_elim h
    rw [← e5]
    refine fhW.blk fhPF fhLL hΓ [(.istore_n 3, 0), (.aload_n 0, 0), (.iload_n 3, 0)] (pc' := 62) (lv' := [(3, .int q3.1), (0, .ref 10), (1, .int v1), (2, .int v2)]) (st' := [.int q3.1, .ref 10]) (σ' := q3.2) (by decide +kernel) rfl rfl rfl ?_
    refine fhW.z_lt hΓ (tgt := 83) (show fhbk _ _ (.ifCond .lt (21)) _ = true by decide +kernel) (fun hc => ?_) (fun hc => ?_)
    · rw [if_pos hc] at h
      refine fhW.sub (lv' := []) [] rfl ?_
      exact L_X10_work_83 hE hΓ hd q3.2 _ h hk
    · rw [if_neg hc] at h
      refine fhW.blk fhPF fhLL hΓ [(.iload_n 3, 0), (.iconst 5, 5)] (pc' := 67) (lv' := [(3, .int q3.1), (0, .ref 10), (1, .int v1), (2, .int v2)]) (st' := [.int (5 : Int32), .int q3.1, .ref 10]) (σ' := q3.2) (by decide +kernel) rfl rfl rfl ?_
      refine fhW.i_ge hΓ (tgt := 83) (show fhbk _ _ (.if_icmp .ge (16)) _ = true by decide +kernel) (fun hc => ?_) (fun hc => ?_)
      · rw [if_pos hc] at h
        refine fhW.sub (lv' := []) [] rfl ?_
        exact L_X10_work_83 hE hΓ hd q3.2 _ h hk
      · rw [if_neg hc] at h
        refine fhW.blk fhPF fhLL hΓ [(.aload_n 0, 0), (.getfield 14, 0), (.iload_n 2, 0), (.iload_n 3, 0), (.iadd, 0)] (pc' := 77) (lv' := [(3, .int q3.1), (0, .ref 10), (1, .int v1), (2, .int v2)]) (st' := [.int (v2 + q3.1), .ref 11, .ref 10]) (σ' := q3.2) (by decide +kernel) rfl rfl rfl ?_
        refine fhW.callv hΓ mvX2_get ml_10_30 (t := 11) (ci := 2) (av := [.int (v2 + q3.1)]) (rest := [.ref 10]) (r := (some (.int (fcG q3.2 11 (v2 + q3.1))))) (σ' := q3.2) (T_X2_get (E := fhEn Γ) (d := fhD Γ - 1) hE (by omega) 11 (v2 + q3.1) rfl q3.2) (by omega) (by decide +kernel) rfl rfl rfl (Nat.le_of_ble_eq_true rfl) rfl ?_
        show fhW fhYF Γ 80 [(3, .int q3.1), (0, .ref 10), (1, .int v1), (2, .int v2)] [.int (fcG q3.2 11 (v2 + q3.1)), .ref 10] q3.2
        refine fhW.goto hΓ (off := 4) (tgt := 84) (by decide +kernel) ?_
        refine fhW.sub (lv' := []) [] rfl ?_
        exact L_X10_work_84 hE hΓ hd (fcG q3.2 11 (v2 + q3.1)) q3.2 _ h hk
  rw [if_neg hc] at h
  refine fhsw_c (fun hc => ?_) (fun hc => ?_)
  · rw [if_pos hc] at h
    refine fhW.blk fhPF fhLL hΓ [(.aload_n 0, 0), (.iconst 1, 1), (.aload_n 0, 0)] (pc' := 93) (lv' := [(0, .ref 10), (1, .int v1), (2, .int v2)]) (st' := [.ref 10, .int (1 : Int32), .ref 10]) (σ' := σ) (by decide +kernel) rfl rfl rfl ?_
    refine fhW.callv hΓ mvX10_pop ml_10_88 (t := 10) (ci := 10) (av := []) (rest := [.int (1 : Int32), .ref 10]) (r := (some (.int (f_X10_pop σ).1))) (σ' := (f_X10_pop σ).2) (T_X10_pop (E := fhEn Γ) (d := fhD Γ - 1) hE (by omega) σ) (by omega) (by decide +kernel) rfl rfl rfl (Nat.le_of_ble_eq_true rfl) rfl ?_
    show fhW fhYF Γ 96 [(0, .ref 10), (1, .int v1), (2, .int v2)] [.int (f_X10_pop σ).1, .int (1 : Int32), .ref 10] (f_X10_pop σ).2
    obtain ⟨q4, e6, h⟩ := fhlet_elim h
    rw [← e6]
    refine fhW.blk fhPF fhLL hΓ [(.isub, 0)] (pc' := 97) (lv' := [(0, .ref 10), (1, .int v1), (2, .int v2)]) (st' := [.int ((1 : Int32) - q4.1), .ref 10]) (σ' := q4.2) (by decide +kernel) rfl rfl rfl ?_
    refine fhW.callv hΓ mvX10_push ml_10_92 (t := 10) (ci := 10) (av := [.int ((1 : Int32) - q4.1)]) (rest := []) (r := none) (σ' := (f_X10_push ((1 : Int32) - q4.1) q4.2)) (T_X10_push (E := fhEn Γ) (d := fhD Γ - 1) hE (by omega) ((1 : Int32) - q4.1) q4.2) (by omega) (by decide +kernel) rfl rfl rfl (Nat.le_of_ble_eq_true rfl) rfl ?_
    show fhW fhYF Γ 100 [(0, .ref 10), (1, .int v1), (2, .int v2)] [] (f_X10_push ((1 : Int32) - q4.1) q4.2)
    obtain ⟨q5, e7, h⟩ := fhlet_elim h
    rw [← e7]
    refine fhW.goto hΓ (off := 44) (tgt := 144) (by decide +kernel) ?_
    have e9 := Option.some.inj h
    subst e9
    exact fhW.vret hΓ (by decide +kernel) hk
  rw [if_neg hc] at h
  refine fhsw_n ?_
  refine fhW.blk fhPF fhLL hΓ [(.aload_n 0, 0)] (pc' := 104) (lv' := [(0, .ref 10), (1, .int v1), (2, .int v2)]) (st' := [.ref 10]) (σ' := σ) (by decide +kernel) rfl rfl rfl ?_
  refine fhW.callv hΓ mvX10_pop ml_10_88 (t := 10) (ci := 10) (av := []) (rest := []) (r := (some (.int (f_X10_pop σ).1))) (σ' := (f_X10_pop σ).2) (T_X10_pop (E := fhEn Γ) (d := fhD Γ - 1) hE (by omega) σ) (by omega) (by decide +kernel) rfl rfl rfl (Nat.le_of_ble_eq_true rfl) rfl ?_
  show fhW fhYF Γ 107 [(0, .ref 10), (1, .int v1), (2, .int v2)] [.int (f_X10_pop σ).1] (f_X10_pop σ).2
  obtain ⟨q6, e8, h⟩ := fhlet_elim h
  rw [← e8]
  refine fhW.blk fhPF fhLL hΓ [(.istore 4, 0), (.aload_n 0, 0)] (pc' := 110) (lv' := [(4, .int q6.1), (0, .ref 10), (1, .int v1), (2, .int v2)]) (st' := [.ref 10]) (σ' := q6.2) (by decide +kernel) rfl rfl rfl ?_
  refine fhW.callv hΓ mvX10_pop ml_10_88 (t := 10) (ci := 10) (av := []) (rest := []) (r := (some (.int (f_X10_pop q6.2).1))) (σ' := (f_X10_pop q6.2).2) (T_X10_pop (E := fhEn Γ) (d := fhD Γ - 1) hE (by omega) q6.2) (by omega) (by decide +kernel) rfl rfl rfl (Nat.le_of_ble_eq_true rfl) rfl ?_
  show fhW fhYF Γ 113 [(4, .int q6.1), (0, .ref 10), (1, .int v1), (2, .int v2)] [.int (f_X10_pop q6.2).1] (f_X10_pop q6.2).2
  obtain ⟨q7, e9, h⟩ := fhlet_elim h
  rw [← e9]
  refine fhW.blk fhPF fhLL hΓ [(.istore 5, 0), (.aload_n 0, 0), (.iload_n 1, 0), (.bipush 10, 10)] (pc' := 119) (lv' := [(5, .int q7.1), (4, .int q6.1), (0, .ref 10), (1, .int v1), (2, .int v2)]) (st' := [.int (10 : Int32), .int v1, .ref 10]) (σ' := q7.2) (by decide +kernel) rfl rfl rfl ?_
  refine fhW.i_ge hΓ (tgt := 133) (show fhbk _ _ (.if_icmp .ge (14)) _ = true by decide +kernel) (fun hc => ?_) (fun hc => ?_)
  · rw [if_pos hc] at h
    refine fhW.blk fhPF fhLL hΓ [(.iload_n 1, 0), (.iload 5, 0), (.iload 4, 0)] (pc' := 138) (lv' := [(5, .int q7.1), (4, .int q6.1), (0, .ref 10), (1, .int v1), (2, .int v2)]) (st' := [.int q6.1, .int q7.1, .int v1, .ref 10]) (σ' := q7.2) (by decide +kernel) rfl rfl rfl ?_
    refine fhW.calls hΓ msX10_judge ml_10_99 (av := [.int v1, .int q7.1, .int q6.1]) (rest := [.ref 10]) (r := (some (.int (f_X10_judge v1 q7.1 q6.1 q7.2)))) (σ' := q7.2) (T_X10_judge (E := fhEn Γ) (d := fhD Γ - 1) hE (by omega) v1 q7.1 q6.1 q7.2) (by omega) (by decide +kernel) rfl (Nat.le_of_ble_eq_true rfl) rfl ?_
    show fhW fhYF Γ 141 [(5, .int q7.1), (4, .int q6.1), (0, .ref 10), (1, .int v1), (2, .int v2)] [.int (f_X10_judge v1 q7.1 q6.1 q7.2), .ref 10] q7.2
    refine fhW.sub (lv' := []) [] rfl ?_
    exact L_X10_work_141 hE hΓ hd (f_X10_judge v1 q7.1 q6.1 q7.2) q7.2 _ h hk
  · rw [if_neg hc] at h
    refine fhW.blk fhPF fhLL hΓ [(.iload_n 1, 0), (.iload 5, 0), (.iload 4, 0)] (pc' := 127) (lv' := [(5, .int q7.1), (4, .int q6.1), (0, .ref 10), (1, .int v1), (2, .int v2)]) (st' := [.int q6.1, .int q7.1, .int v1, .ref 10]) (σ' := q7.2) (by decide +kernel) rfl rfl rfl ?_
    obtain ⟨q8, hb1, h⟩ := Option.bind_eq_some_iff.mp h
    refine fhW.calls hΓ msX10_reckon ml_10_95 (av := [.int v1, .int q7.1, .int q6.1]) (rest := [.ref 10]) (r := (some (.int q8))) (σ' := q7.2) (T_X10_reckon (E := fhEn Γ) (d := fhD Γ - 1) hE (by omega) v1 q7.1 q6.1 q7.2 hb1) (by omega) (by decide +kernel) rfl (Nat.le_of_ble_eq_true rfl) rfl ?_
    show fhW fhYF Γ 130 [(5, .int q7.1), (4, .int q6.1), (0, .ref 10), (1, .int v1), (2, .int v2)] [.int q8, .ref 10] q7.2
    refine fhW.goto hΓ (off := 11) (tgt := 141) (by decide +kernel) ?_
    refine fhW.sub (lv' := []) [] rfl ?_
    exact L_X10_work_141 hE hΓ hd q8 q7.2 _ h hk
set_option maxRecDepth 100000 in
theorem T_X10_work {E : fhE} {d : Nat} (hE : fhEok fhYF E) (hd : 3 ≤ d) (v1 : Int32) (v2 : Int32)  (σ : fhM) {o : fhM} (h : f_X10_work v1 v2 σ = some o) : fhC fhYF E d miX10_work [.ref 10, .int v1, .int v2] σ none o := by
  refine fhC.of (y := yX10_work) (cc := cX10_work) (nL := 6) (ret := none) 10 rfl (by decide +kernel) (Nat.le_of_ble_eq_true rfl) ?_
  intro Γ hΓ hR hD hEn
  subst hD; subst hEn
  exact L_X10_work_E hE hΓ hd v1 v2  σ _ h hR
set_option maxRecDepth 100000 in
set_option maxHeartbeats 4000000 in
theorem L_X10_value_8 {Γ : fhX} (hE : fhEok fhYF (fhEn Γ)) (hΓ : fhOk fhYF 10 cX10_value 6 (some .int) Γ) (hd : 4 ≤ fhD Γ) (v1 : Nat) (v3 : Int32) (v4 : Int32) (hv1 : fhiK v1 = true) (σ : fhM) (o : (Int32 × fhM) ⊕ (Int32 × fhM)) (h : f_X10_value_8 v1 v3 v4 σ = some o) (hk : (fhK (fun x => fhW fhYF Γ 8 [(0, .ref 10), (1, .ref v1), (3, .int v3), (4, .int x.1)] [] x.2) (fun o => fhRet Γ (some (.int o.1)) o.2)) o) : fhW fhYF Γ 8 [(0, .ref 10), (1, .ref v1), (3, .int v3), (4, .int v4)] [] σ := by
  unfold f_X10_value_8 at h
  refine fhW.blk fhPF fhLL hΓ [(.iload 4, 0), (.iload_n 3, 0)] (pc' := 11) (lv' := [(0, .ref 10), (1, .ref v1), (3, .int v3), (4, .int v4)]) (st' := [.int v3, .int v4]) (σ' := σ) (by decide +kernel) rfl rfl rfl ?_
  refine fhW.i_ge hΓ (tgt := 44) (show fhbk _ _ (.if_icmp .ge (33)) _ = true by decide +kernel) (fun hc => ?_) (fun hc => ?_)
  · rw [if_pos hc] at h
    refine fhW.blk fhPF fhLL hΓ [(.aload_n 0, 0)] (pc' := 45) (lv' := [(0, .ref 10), (1, .ref v1), (3, .int v3), (4, .int v4)]) (st' := [.ref 10]) (σ' := σ) (by decide +kernel) rfl rfl rfl ?_
    refine fhW.callv hΓ mvX10_pop ml_10_88 (t := 10) (ci := 10) (av := []) (rest := []) (r := (some (.int (f_X10_pop σ).1))) (σ' := (f_X10_pop σ).2) (T_X10_pop (E := fhEn Γ) (d := fhD Γ - 1) hE (by omega) σ) (by omega) (by decide +kernel) rfl rfl rfl (Nat.le_of_ble_eq_true rfl) rfl ?_
    show fhW fhYF Γ 48 [(0, .ref 10), (1, .ref v1), (3, .int v3), (4, .int v4)] [.int (f_X10_pop σ).1] (f_X10_pop σ).2
    obtain ⟨q1, e1, h⟩ := fhlet_elim h
    rw [← e1]
    have e9 := Option.some.inj h
    subst e9
    exact fhW.iret hΓ (by decide +kernel) hk
  · rw [if_neg hc] at h
    refine fhW.blk fhPF fhLL hΓ [(.aload_n 1, 0), (.getfield 80, 0), (.iload 4, 0)] (pc' := 20) (lv' := [(0, .ref 10), (1, .ref v1), (3, .int v3), (4, .int v4)]) (st' := [.int v4, .ref (v1 + 1)]) (σ' := σ) (by decide +kernel) rfl rfl (by rcases fhiK_or hv1 with rfl | rfl | rfl <;> rfl) ?_
    refine fhW.callv hΓ mvX2_get ml_10_30 (t := (v1 + 1)) (ci := 2) (av := [.int v4]) (rest := []) (r := (some (.int (fcG σ (v1 + 1) v4)))) (σ' := σ) (T_X2_get (E := fhEn Γ) (d := fhD Γ - 1) hE (by omega) (v1 + 1) v4 (fhiK_ind (p := fun q => fhiC (q + 1) = true) hv1 rfl rfl rfl) σ) (by omega) (by decide +kernel) rfl (fhiC_g (fhiK_ind (p := fun q => fhiC (q + 1) = true) hv1 rfl rfl rfl)) rfl (Nat.le_of_ble_eq_true rfl) rfl ?_
    show fhW fhYF Γ 23 [(0, .ref 10), (1, .ref v1), (3, .int v3), (4, .int v4)] [.int (fcG σ (v1 + 1) v4)] σ
    refine fhW.blk fhPF fhLL hΓ [(.istore 5, 0), (.aload_n 0, 0), (.iload 5, 0), (.bipush 15, 15), (.iand, 0), (.iload 5, 0), (.iconst 4, 4), (.ishr, 0)] (pc' := 35) (lv' := [(5, .int (fcG σ (v1 + 1) v4)), (0, .ref 10), (1, .ref v1), (3, .int v3), (4, .int v4)]) (st' := [.int ((fcG σ (v1 + 1) v4) >>> ((4 : Int32) &&& 31)), .int ((fcG σ (v1 + 1) v4) &&& (15 : Int32)), .ref 10]) (σ' := σ) (by decide +kernel) rfl rfl rfl ?_
    obtain ⟨q2, hb1, h⟩ := Option.bind_eq_some_iff.mp h
    refine fhW.callv hΓ mvX10_work ml_10_85 (t := 10) (ci := 10) (av := [.int ((fcG σ (v1 + 1) v4) &&& (15 : Int32)), .int ((fcG σ (v1 + 1) v4) >>> ((4 : Int32) &&& 31))]) (rest := []) (r := none) (σ' := q2) (T_X10_work (E := fhEn Γ) (d := fhD Γ - 1) hE (by omega) ((fcG σ (v1 + 1) v4) &&& (15 : Int32)) ((fcG σ (v1 + 1) v4) >>> ((4 : Int32) &&& 31)) σ hb1) (by omega) (by decide +kernel) rfl rfl rfl (Nat.le_of_ble_eq_true rfl) rfl ?_
    show fhW fhYF Γ 38 [(5, .int (fcG σ (v1 + 1) v4)), (0, .ref 10), (1, .ref v1), (3, .int v3), (4, .int v4)] [] q2
    refine fhW.blk fhPF fhLL hΓ [(.iinc 4 1, 1)] (pc' := 41) (lv' := [(4, .int (v4 + (1 : Int32))), (5, .int (fcG σ (v1 + 1) v4)), (0, .ref 10), (1, .ref v1), (3, .int v3)]) (st' := []) (σ' := q2) (by decide +kernel) rfl rfl rfl ?_
    refine fhW.goto hΓ (off := (-33)) (tgt := 8) (by decide +kernel) ?_
    refine fhW.sub (lv' := [(0, .ref 10), (1, .ref v1), (3, .int v3), (4, .int (v4 + (1 : Int32)))]) [2, 3, 4, 0] rfl ?_
    have e9 := Option.some.inj h
    subst e9
    exact hk
set_option maxRecDepth 100000 in
set_option maxHeartbeats 4000000 in
theorem L_X10_value_E {Γ : fhX} (hE : fhEok fhYF (fhEn Γ)) (hΓ : fhOk fhYF 10 cX10_value 6 (some .int) Γ) (hd : 4 ≤ fhD Γ) (v1 : Nat) (v2 : Int32) (v3 : Int32) (hv1 : fhiK v1 = true) (σ : fhM) (o : Int32 × fhM) (h : f_X10_value v1 v2 v3 σ = some o) (hk : (fun o => fhRet Γ (some (.int o.1)) o.2) o) : fhW fhYF Γ 0 [(0, .ref 10), (1, .ref v1), (2, .int v2), (3, .int v3)] [] σ := by
  unfold f_X10_value at h
  refine fhW.blk fhPF fhLL hΓ [(.aload_n 0, 0), (.iconst 0, 0), (.putfield 77, 0), (.iload_n 2, 0), (.istore 4, 0)] (pc' := 8) (lv' := [(4, .int v2), (0, .ref 10), (1, .ref v1), (2, .int v2), (3, .int v3)]) (st' := []) (σ' := (fhI σ 10 2 (0 : Int32))) (by decide +kernel) rfl rfl rfl ?_
  refine fhW.sub (lv' := [(0, .ref 10), (1, .ref v1), (3, .int v3), (4, .int v2)]) [1, 2, 4, 0] rfl ?_
  exact fhlp_ok (W := (fun x => fhW fhYF Γ 8 [(0, .ref 10), (1, .ref v1), (3, .int v3), (4, .int x.1)] [] x.2)) (B := (fun o => fhRet Γ (some (.int o.1)) o.2)) (fun x o h hk => L_X10_value_8 hE hΓ hd v1 v3 x.1 hv1 x.2 o h hk) (v2, (fhI σ 10 2 (0 : Int32))) _ h hk
set_option maxRecDepth 100000 in
theorem T_X10_value {E : fhE} {d : Nat} (hE : fhEok fhYF E) (hd : 4 ≤ d) (v1 : Nat) (v2 : Int32) (v3 : Int32) (hv1 : fhiK v1 = true) (σ : fhM) {o : Int32 × fhM} (h : f_X10_value v1 v2 v3 σ = some o) : fhC fhYF E d miX10_value [.ref 10, .ref v1, .int v2, .int v3] σ (some (.int o.1)) o.2 := by
  refine fhC.of (y := yX10_value) (cc := cX10_value) (nL := 6) (ret := (some .int)) 10 rfl (by decide +kernel) (Nat.le_of_ble_eq_true rfl) ?_
  intro Γ hΓ hR hD hEn
  subst hD; subst hEn
  exact L_X10_value_E hE hΓ hd v1 v2 v3 hv1 σ _ h hR
set_option maxRecDepth 100000 in
set_option maxHeartbeats 4000000 in
theorem L_X7_rulesHold_2 {Γ : fhX} (hE : fhEok fhYF (fhEn Γ)) (hΓ : fhOk fhYF 7 cX7_rulesHold 3 (some .boolean) Γ) (hd : 5 ≤ fhD Γ) (v0 : Nat) (v2 : Int32) (hv0 : fhiP v0 = true) (σ : fhM) (o : (Int32 × fhM) ⊕ (Bool × fhM)) (h : f_X7_rulesHold_2 v0 v2 σ = some o) (hk : (fhK (fun x => fhW fhYF Γ 2 [(0, .ref v0), (1, .ref 10), (2, .int x.1)] [] x.2) (fun o => fhRet Γ (some (.int (fhb o.1))) o.2)) o) : fhW fhYF Γ 2 [(0, .ref v0), (1, .ref 10), (2, .int v2)] [] σ := by
  unfold f_X7_rulesHold_2 at h
  refine fhW.blk fhPF fhLL hΓ [(.iload_n 2, 0), (.aload_n 0, 0), (.getfield 82, 0)] (pc' := 7) (lv' := [(0, .ref v0), (1, .ref 10), (2, .int v2)]) (st' := [.int (σ.1 v0 11), .int v2]) (σ' := σ) (by decide +kernel) rfl rfl (by rcases fhiP_or hv0 with rfl | rfl <;> rfl) ?_
  refine fhW.i_ge hΓ (tgt := 51) (show fhbk _ _ (.if_icmp .ge (44)) _ = true by decide +kernel) (fun hc => ?_) (fun hc => ?_)
  · rw [if_pos hc] at h
    refine fhW.blk fhPF fhLL hΓ [(.iconst 1, 1)] (pc' := 52) (lv' := [(0, .ref v0), (1, .ref 10), (2, .int v2)]) (st' := [.int (1 : Int32)]) (σ' := σ) (by decide +kernel) rfl rfl rfl ?_
    have e9 := Option.some.inj h
    subst e9
    exact fhW.zret (v := true) hΓ (by decide +kernel) hk
  · rw [if_neg hc] at h
    refine fhW.blk fhPF fhLL hΓ [(.aload_n 1, 0), (.aload_n 0, 0), (.getfield 12, 0), (.aload_n 0, 0), (.getfield 27, 0), (.iconst 2, 2)] (pc' := 20) (lv' := [(0, .ref v0), (1, .ref 10), (2, .int v2)]) (st' := [.int (2 : Int32), .ref (v0 + 6), .ref (v0 + 1), .ref 10]) (σ' := σ) (by decide +kernel) rfl rfl (by rcases fhiP_or hv0 with rfl | rfl <;> rfl) ?_
    refine fhW.blk fhPF fhLL hΓ [(.iload_n 2, 0), (.imul, 0)] (pc' := 22) (lv' := [(0, .ref v0), (1, .ref 10), (2, .int v2)]) (st' := [.int ((2 : Int32) * v2), .ref (v0 + 6), .ref (v0 + 1), .ref 10]) (σ' := σ) (by decide +kernel) rfl rfl rfl ?_
    refine fhW.callv hΓ mvX2_get ml_7_156 (t := (v0 + 6)) (ci := 2) (av := [.int ((2 : Int32) * v2)]) (rest := [.ref (v0 + 1), .ref 10]) (r := (some (.int (fcG σ (v0 + 6) ((2 : Int32) * v2))))) (σ' := σ) (T_X2_get (E := fhEn Γ) (d := fhD Γ - 1) hE (by omega) (v0 + 6) ((2 : Int32) * v2) (fhiP_ind (p := fun q => fhiC (q + 6) = true) hv0 rfl rfl) σ) (by omega) (by decide +kernel) rfl (fhiC_g (fhiP_ind (p := fun q => fhiC (q + 6) = true) hv0 rfl rfl)) rfl (Nat.le_of_ble_eq_true rfl) rfl ?_
    show fhW fhYF Γ 25 [(0, .ref v0), (1, .ref 10), (2, .int v2)] [.int (fcG σ (v0 + 6) ((2 : Int32) * v2)), .ref (v0 + 1), .ref 10] σ
    refine fhW.blk fhPF fhLL hΓ [(.aload_n 0, 0), (.getfield 27, 0), (.iconst 2, 2), (.iload_n 2, 0), (.imul, 0), (.iconst 1, 1)] (pc' := 33) (lv' := [(0, .ref v0), (1, .ref 10), (2, .int v2)]) (st' := [.int (1 : Int32), .int ((2 : Int32) * v2), .ref (v0 + 6), .int (fcG σ (v0 + 6) ((2 : Int32) * v2)), .ref (v0 + 1), .ref 10]) (σ' := σ) (by decide +kernel) rfl rfl (by rcases fhiP_or hv0 with rfl | rfl <;> rfl) ?_
    refine fhW.blk fhPF fhLL hΓ [(.iadd, 0)] (pc' := 34) (lv' := [(0, .ref v0), (1, .ref 10), (2, .int v2)]) (st' := [.int (((2 : Int32) * v2) + (1 : Int32)), .ref (v0 + 6), .int (fcG σ (v0 + 6) ((2 : Int32) * v2)), .ref (v0 + 1), .ref 10]) (σ' := σ) (by decide +kernel) rfl rfl rfl ?_
    refine fhW.callv hΓ mvX2_get ml_7_156 (t := (v0 + 6)) (ci := 2) (av := [.int (((2 : Int32) * v2) + (1 : Int32))]) (rest := [.int (fcG σ (v0 + 6) ((2 : Int32) * v2)), .ref (v0 + 1), .ref 10]) (r := (some (.int (fcG σ (v0 + 6) (((2 : Int32) * v2) + (1 : Int32)))))) (σ' := σ) (T_X2_get (E := fhEn Γ) (d := fhD Γ - 1) hE (by omega) (v0 + 6) (((2 : Int32) * v2) + (1 : Int32)) (fhiP_ind (p := fun q => fhiC (q + 6) = true) hv0 rfl rfl) σ) (by omega) (by decide +kernel) rfl (fhiC_g (fhiP_ind (p := fun q => fhiC (q + 6) = true) hv0 rfl rfl)) rfl (Nat.le_of_ble_eq_true rfl) rfl ?_
    show fhW fhYF Γ 37 [(0, .ref v0), (1, .ref 10), (2, .int v2)] [.int (fcG σ (v0 + 6) (((2 : Int32) * v2) + (1 : Int32))), .int (fcG σ (v0 + 6) ((2 : Int32) * v2)), .ref (v0 + 1), .ref 10] σ
    obtain ⟨q1, hb1, h⟩ := Option.bind_eq_some_iff.mp h
    refine fhW.callv hΓ mvX10_value ml_7_159 (t := 10) (ci := 10) (av := [.ref (v0 + 1), .int (fcG σ (v0 + 6) ((2 : Int32) * v2)), .int (fcG σ (v0 + 6) (((2 : Int32) * v2) + (1 : Int32)))]) (rest := []) (r := (some (.int q1.1))) (σ' := q1.2) (T_X10_value (E := fhEn Γ) (d := fhD Γ - 1) hE (by omega) (v0 + 1) (fcG σ (v0 + 6) ((2 : Int32) * v2)) (fcG σ (v0 + 6) (((2 : Int32) * v2) + (1 : Int32))) (fhiP_ind (p := fun q => fhiK (q + 1) = true) hv0 rfl rfl) σ hb1) (by omega) (by decide +kernel) rfl rfl rfl (Nat.le_of_ble_eq_true rfl) rfl ?_
    show fhW fhYF Γ 40 [(0, .ref v0), (1, .ref 10), (2, .int v2)] [.int q1.1] q1.2
    refine fhW.z_ne hΓ (tgt := 45) (show fhbk _ _ (.ifCond .ne (5)) _ = true by decide +kernel) (fun hc => ?_) (fun hc => ?_)
    · rw [if_neg hc] at h
      refine fhW.blk fhPF fhLL hΓ [(.iinc 2 1, 1)] (pc' := 48) (lv' := [(2, .int (v2 + (1 : Int32))), (0, .ref v0), (1, .ref 10)]) (st' := []) (σ' := q1.2) (by decide +kernel) rfl rfl rfl ?_
      refine fhW.goto hΓ (off := (-46)) (tgt := 2) (by decide +kernel) ?_
      refine fhW.sub (lv' := [(0, .ref v0), (1, .ref 10), (2, .int (v2 + (1 : Int32)))]) [1, 2, 0] rfl ?_
      have e9 := Option.some.inj h
      subst e9
      exact hk
    · rw [if_pos hc] at h
      refine fhW.blk fhPF fhLL hΓ [(.iconst 0, 0)] (pc' := 44) (lv' := [(0, .ref v0), (1, .ref 10), (2, .int v2)]) (st' := [.int (0 : Int32)]) (σ' := q1.2) (by decide +kernel) rfl rfl rfl ?_
      have e9 := Option.some.inj h
      subst e9
      exact fhW.zret (v := false) hΓ (by decide +kernel) hk
set_option maxRecDepth 100000 in
set_option maxHeartbeats 4000000 in
theorem L_X7_rulesHold_E {Γ : fhX} (hE : fhEok fhYF (fhEn Γ)) (hΓ : fhOk fhYF 7 cX7_rulesHold 3 (some .boolean) Γ) (hd : 5 ≤ fhD Γ) (v0 : Nat) (hv0 : fhiP v0 = true) (σ : fhM) (o : Bool × fhM) (h : f_X7_rulesHold v0 σ = some o) (hk : (fun o => fhRet Γ (some (.int (fhb o.1))) o.2) o) : fhW fhYF Γ 0 [(0, .ref v0), (1, .ref 10)] [] σ := by
  unfold f_X7_rulesHold at h
  refine fhW.blk fhPF fhLL hΓ [(.iconst 0, 0), (.istore_n 2, 0)] (pc' := 2) (lv' := [(2, .int (0 : Int32)), (0, .ref v0), (1, .ref 10)]) (st' := []) (σ' := σ) (by decide +kernel) rfl rfl rfl ?_
  refine fhW.sub (lv' := [(0, .ref v0), (1, .ref 10), (2, .int (0 : Int32))]) [1, 2, 0] rfl ?_
  exact fhlp_ok (W := (fun x => fhW fhYF Γ 2 [(0, .ref v0), (1, .ref 10), (2, .int x.1)] [] x.2)) (B := (fun o => fhRet Γ (some (.int (fhb o.1))) o.2)) (fun x o h hk => L_X7_rulesHold_2 hE hΓ hd v0 x.1 hv0 x.2 o h hk) ((0 : Int32), σ) _ h hk
set_option maxRecDepth 100000 in
theorem T_X7_rulesHold {E : fhE} {d : Nat} (hE : fhEok fhYF E) (hd : 5 ≤ d) (v0 : Nat) (hv0 : fhiP v0 = true) (σ : fhM) {o : Bool × fhM} (h : f_X7_rulesHold v0 σ = some o) : fhC fhYF E d miX7_rulesHold [.ref v0, .ref 10] σ (some (.int (fhb o.1))) o.2 := by
  refine fhC.of (y := yX7_rulesHold) (cc := cX7_rulesHold) (nL := 3) (ret := (some .boolean)) 7 rfl (by decide +kernel) (Nat.le_of_ble_eq_true rfl) ?_
  intro Γ hΓ hR hD hEn
  subst hD; subst hEn
  exact L_X7_rulesHold_E hE hΓ hd v0 hv0 σ _ h hR
set_option maxRecDepth 100000 in
set_option maxHeartbeats 4000000 in
theorem L_X7_close_15 {Γ : fhX} (hE : fhEok fhYF (fhEn Γ)) (hΓ : fhOk fhYF 7 cX7_close 2 none Γ) (hd : 6 ≤ fhD Γ) (v0 : Nat) (hv0 : fhiP v0 = true) (σ : fhM) (o : fhM) (h : f_X7_close_15 v0 σ = some o) (hk : (fun o => fhRet Γ none o) o) : fhW fhYF Γ 15 [(0, .ref v0), (1, .ref 10)] [] σ := by
  unfold f_X7_close_15 at h
  refine fhW.blk fhPF fhLL hΓ [(.aload_n 0, 0), (.getfield 36, 0), (.getfield 60, 0)] (pc' := 22) (lv' := [(0, .ref v0), (1, .ref 10)]) (st' := [.int (σ.1 3 9)]) (σ' := σ) (by decide +kernel) rfl rfl (by rcases fhiP_or hv0 with rfl | rfl <;> rfl) ?_
  refine fhW.z_ne hΓ (tgt := 58) (show fhbk _ _ (.ifCond .ne (36)) _ = true by decide +kernel) (fun hc => ?_) (fun hc => ?_)
  · rw [if_neg hc] at h
    have e9 := Option.some.inj h
    subst e9
    exact fhW.vret hΓ (by decide +kernel) hk
  · rw [if_pos hc] at h
    refine fhW.blk fhPF fhLL hΓ [(.aload_n 1, 0), (.aload_n 0, 0), (.getfield 63, 0), (.aload_n 0, 0), (.getfield 66, 0), (.aload_n 0, 0)] (pc' := 35) (lv' := [(0, .ref v0), (1, .ref 10)]) (st' := [.ref v0, .int (σ.1 v0 9), .int (σ.1 v0 14), .ref 10]) (σ' := σ) (by decide +kernel) rfl rfl (by rcases fhiP_or hv0 with rfl | rfl <;> rfl) ?_
    refine fhW.blk fhPF fhLL hΓ [(.getfield 69, 0)] (pc' := 38) (lv' := [(0, .ref v0), (1, .ref 10)]) (st' := [.int (σ.1 v0 10), .int (σ.1 v0 9), .int (σ.1 v0 14), .ref 10]) (σ' := σ) (by decide +kernel) rfl rfl (by rcases fhiP_or hv0 with rfl | rfl <;> rfl) ?_
    obtain ⟨q2, hb1, h⟩ := Option.bind_eq_some_iff.mp h
    refine fhW.callv hΓ mvX10_fillFromRow ml_7_72 (t := 10) (ci := 10) (av := [.int (σ.1 v0 14), .int (σ.1 v0 9), .int (σ.1 v0 10)]) (rest := []) (r := none) (σ' := q2) (T_X10_fillFromRow (E := fhEn Γ) (d := fhD Γ - 1) hE (by omega) (σ.1 v0 14) (σ.1 v0 9) (σ.1 v0 10) σ hb1) (by omega) (by decide +kernel) rfl rfl rfl (Nat.le_of_ble_eq_true rfl) rfl ?_
    show fhW fhYF Γ 41 [(0, .ref v0), (1, .ref 10)] [] q2
    refine fhW.blk fhPF fhLL hΓ [(.aload_n 0, 0), (.aload_n 1, 0)] (pc' := 43) (lv' := [(0, .ref v0), (1, .ref 10)]) (st' := [.ref 10, .ref v0]) (σ' := q2) (by decide +kernel) rfl rfl rfl ?_
    obtain ⟨q3, hb2, h⟩ := Option.bind_eq_some_iff.mp h
    refine fhW.callv hΓ mvX7_rulesHold ml_7_78 (t := v0) (ci := 7) (av := [.ref 10]) (rest := []) (r := (some (.int (fhb q3.1)))) (σ' := q3.2) (T_X7_rulesHold (E := fhEn Γ) (d := fhD Γ - 1) hE (by omega) v0 hv0 q2 hb2) (by omega) (by decide +kernel) rfl (fhiP_g hv0) rfl (Nat.le_of_ble_eq_true rfl) rfl ?_
    show fhW fhYF Γ 46 [(0, .ref v0), (1, .ref 10)] [.int (fhb q3.1)] q3.2
    refine fhW.b_ne hΓ (tgt := 58) (show fhbk _ _ (.ifCond .ne (12)) _ = true by decide +kernel) (fun hc => ?_) (fun hc => ?_)
    · rw [if_pos hc] at h
      have e9 := Option.some.inj h
      subst e9
      exact fhW.vret hΓ (by decide +kernel) hk
    · rw [if_neg hc] at h
      refine fhW.blk fhPF fhLL hΓ [(.aload_n 0, 0), (.getfield 36, 0), (.bipush 6, 6)] (pc' := 55) (lv' := [(0, .ref v0), (1, .ref 10)]) (st' := [.int (6 : Int32), .ref 3]) (σ' := q3.2) (by decide +kernel) rfl rfl (by rcases fhiP_or hv0 with rfl | rfl <;> rfl) ?_
      refine fhW.callv hΓ mvX8_failAtEnd ml_7_57 (t := 3) (ci := 8) (av := [.int (6 : Int32)]) (rest := []) (r := none) (σ' := (f_X8_failAtEnd (6 : Int32) q3.2)) (T_X8_failAtEnd (E := fhEn Γ) (d := fhD Γ - 1) hE (by omega) (6 : Int32) q3.2) (by omega) (by decide +kernel) rfl rfl rfl (Nat.le_of_ble_eq_true rfl) rfl ?_
      show fhW fhYF Γ 58 [(0, .ref v0), (1, .ref 10)] [] (f_X8_failAtEnd (6 : Int32) q3.2)
      obtain ⟨q4, e1, h⟩ := fhlet_elim h
      rw [← e1]
      have e9 := Option.some.inj h
      subst e9
      exact fhW.vret hΓ (by decide +kernel) hk
set_option maxRecDepth 100000 in
set_option maxHeartbeats 4000000 in
theorem L_X7_close_E {Γ : fhX} (hE : fhEok fhYF (fhEn Γ)) (hΓ : fhOk fhYF 7 cX7_close 2 none Γ) (hd : 6 ≤ fhD Γ) (v0 : Nat) (hv0 : fhiP v0 = true) (σ : fhM) (o : fhM) (h : f_X7_close v0 σ = some o) (hk : (fun o => fhRet Γ none o) o) : fhW fhYF Γ 0 [(0, .ref v0), (1, .ref 10)] [] σ := by
  unfold f_X7_close at h
  refine fhW.blk fhPF fhLL hΓ [(.aload_n 0, 0), (.getfield 53, 0)] (pc' := 4) (lv' := [(0, .ref v0), (1, .ref 10)]) (st' := [.int (σ.1 v0 8)]) (σ' := σ) (by decide +kernel) rfl rfl (by rcases fhiP_or hv0 with rfl | rfl <;> rfl) ?_
  refine fhW.z_ne hΓ (tgt := 15) (show fhbk _ _ (.ifCond .ne (11)) _ = true by decide +kernel) (fun hc => ?_) (fun hc => ?_)
  · rw [if_neg hc] at h
    refine fhW.sub (lv' := [(0, .ref v0), (1, .ref 10)]) [0, 1] rfl ?_
    exact L_X7_close_15 hE hΓ hd v0 hv0 σ _ h hk
  · rw [if_pos hc] at h
    refine fhW.blk fhPF fhLL hΓ [(.aload_n 0, 0), (.getfield 36, 0), (.iconst 1, 1)] (pc' := 12) (lv' := [(0, .ref v0), (1, .ref 10)]) (st' := [.int (1 : Int32), .ref 3]) (σ' := σ) (by decide +kernel) rfl rfl (by rcases fhiP_or hv0 with rfl | rfl <;> rfl) ?_
    refine fhW.callv hΓ mvX8_failAtEnd ml_7_57 (t := 3) (ci := 8) (av := [.int (1 : Int32)]) (rest := []) (r := none) (σ' := (f_X8_failAtEnd (1 : Int32) σ)) (T_X8_failAtEnd (E := fhEn Γ) (d := fhD Γ - 1) hE (by omega) (1 : Int32) σ) (by omega) (by decide +kernel) rfl rfl rfl (Nat.le_of_ble_eq_true rfl) rfl ?_
    show fhW fhYF Γ 15 [(0, .ref v0), (1, .ref 10)] [] (f_X8_failAtEnd (1 : Int32) σ)
    obtain ⟨q1, e2, h⟩ := fhlet_elim h
    rw [← e2]
    refine fhW.sub (lv' := [(0, .ref v0), (1, .ref 10)]) [0, 1] rfl ?_
    exact L_X7_close_15 hE hΓ hd v0 hv0 q1 _ h hk
set_option maxRecDepth 100000 in
theorem T_X7_close {E : fhE} {d : Nat} (hE : fhEok fhYF E) (hd : 6 ≤ d) (v0 : Nat) (hv0 : fhiP v0 = true) (σ : fhM) {o : fhM} (h : f_X7_close v0 σ = some o) : fhC fhYF E d miX7_close [.ref v0, .ref 10] σ none o := by
  refine fhC.of (y := yX7_close) (cc := cX7_close) (nL := 2) (ret := none) 7 rfl (by decide +kernel) (Nat.le_of_ble_eq_true rfl) ?_
  intro Γ hΓ hR hD hEn
  subst hD; subst hEn
  exact L_X7_close_E hE hΓ hd v0 hv0 σ _ h hR

