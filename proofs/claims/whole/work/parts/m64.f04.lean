set_option maxRecDepth 100000 in
set_option maxHeartbeats 4000000 in
theorem L_X7_statementWord_146 {Γ : fhX} (hE : fhEok fhYF (fhEn Γ)) (hΓ : fhOk fhYF 7 cX7_statementWord 5 (some .int) Γ) (hd : 2 ≤ fhD Γ) (v0 : Nat) (v1 : Int32) (hv0 : fhiP v0 = true) (σ : fhM) (o : Int32 × fhM) (h : f_X7_statementWord_146 v0 v1 σ = o) (hk : (fun o => fhRet Γ (some (.int o.1)) o.2) o) : fhW fhYF Γ 146 [(0, .ref v0), (1, .int v1)] [] σ := by
  unfold f_X7_statementWord_146 at h
  refine fhW.blk fhPF fhLL hΓ [(.aload_n 0, 0), (.getfield 36, 0)] (pc' := 150) (lv' := [(0, .ref v0), (1, .int v1)]) (st' := [.ref 3]) (σ' := σ) (by decide +kernel) rfl rfl (by rcases fhiP_or hv0 with rfl | rfl <;> rfl) ?_
  refine fhW.callv hΓ mvX8_failHere ml_7_140 (t := 3) (ci := 8) (av := []) (rest := []) (r := none) (σ' := (f_X8_failHere σ)) (T_X8_failHere (E := fhEn Γ) (d := fhD Γ - 1) hE (by omega) σ) (by omega) (by decide +kernel) rfl rfl rfl (Nat.le_of_ble_eq_true rfl) rfl ?_
  show fhW fhYF Γ 153 [(0, .ref v0), (1, .int v1)] [] (f_X8_failHere σ)
  obtain ⟨q2, e1, h⟩ := fhlet_elim h
  rw [← e1]
  refine fhW.blk fhPF fhLL hΓ [(.iload_n 1, 0)] (pc' := 154) (lv' := [(0, .ref v0), (1, .int v1)]) (st' := [.int v1]) (σ' := q2) (by decide +kernel) rfl rfl rfl ?_
  subst h
  exact fhW.iret hΓ (by decide +kernel) hk
set_option maxRecDepth 100000 in
set_option maxHeartbeats 4000000 in
theorem L_X7_statementWord_125 {Γ : fhX} (hE : fhEok fhYF (fhEn Γ)) (hΓ : fhOk fhYF 7 cX7_statementWord 5 (some .int) Γ) (hd : 2 ≤ fhD Γ) (v0 : Nat) (v1 : Int32) (v3 : Int32) (s0 : Int32) (hv0 : fhiP v0 = true) (σ : fhM) (o : Int32 × fhM) (h : f_X7_statementWord_125 v0 v1 v3 s0 σ = o) (hk : (fun o => fhRet Γ (some (.int o.1)) o.2) o) : fhW fhYF Γ 125 [(0, .ref v0), (1, .int v1), (3, .int v3)] [.int s0] σ := by
  unfold f_X7_statementWord_125 at h
  refine fhW.blk fhPF fhLL hΓ [(.istore 4, 0), (.aload_n 0, 0), (.getfield 53, 0)] (pc' := 131) (lv' := [(4, .int s0), (0, .ref v0), (1, .int v1), (3, .int v3)]) (st' := [.int (σ.1 v0 8)]) (σ' := σ) (by decide +kernel) rfl rfl (by rcases fhiP_or hv0 with rfl | rfl <;> rfl) ?_
  refine fhW.z_ne hΓ (tgt := 141) (show fhbk _ _ (.ifCond .ne (10)) _ = true by decide +kernel) (fun hc => ?_) (fun hc => ?_)
  · rw [if_neg hc] at h
    refine fhW.blk fhPF fhLL hΓ [(.iload 4, 0)] (pc' := 143) (lv' := [(4, .int s0), (0, .ref v0), (1, .int v1), (3, .int v3)]) (st' := [.int s0]) (σ' := σ) (by decide +kernel) rfl rfl rfl ?_
    refine fhW.z_ne hΓ (tgt := 153) (show fhbk _ _ (.ifCond .ne (10)) _ = true by decide +kernel) (fun hc => ?_) (fun hc => ?_)
    · rw [if_neg hc] at h
      refine fhW.blk fhPF fhLL hΓ [(.iload_n 1, 0)] (pc' := 154) (lv' := [(4, .int s0), (0, .ref v0), (1, .int v1), (3, .int v3)]) (st' := [.int v1]) (σ' := σ) (by decide +kernel) rfl rfl rfl ?_
      subst h
      exact fhW.iret hΓ (by decide +kernel) hk
    · rw [if_pos hc] at h
      refine fhW.sub (lv' := [(0, .ref v0), (1, .int v1)]) [1, 2] rfl ?_
      exact L_X7_statementWord_146 hE hΓ hd v0 v1 hv0 σ _ h hk
  · rw [if_pos hc] at h
    refine fhW.blk fhPF fhLL hΓ [(.iload_n 3, 0)] (pc' := 135) (lv' := [(4, .int s0), (0, .ref v0), (1, .int v1), (3, .int v3)]) (st' := [.int v3]) (σ' := σ) (by decide +kernel) rfl rfl rfl ?_
    refine fhW.z_ne hΓ (tgt := 153) (show fhbk _ _ (.ifCond .ne (18)) _ = true by decide +kernel) (fun hc => ?_) (fun hc => ?_)
    · rw [if_neg hc] at h
      refine fhW.blk fhPF fhLL hΓ [(.iload_n 1, 0)] (pc' := 154) (lv' := [(4, .int s0), (0, .ref v0), (1, .int v1), (3, .int v3)]) (st' := [.int v1]) (σ' := σ) (by decide +kernel) rfl rfl rfl ?_
      subst h
      exact fhW.iret hΓ (by decide +kernel) hk
    · rw [if_pos hc] at h
      refine fhW.goto hΓ (off := 8) (tgt := 146) (by decide +kernel) ?_
      refine fhW.sub (lv' := [(0, .ref v0), (1, .int v1)]) [1, 2] rfl ?_
      exact L_X7_statementWord_146 hE hΓ hd v0 v1 hv0 σ _ h hk
set_option maxRecDepth 100000 in
set_option maxHeartbeats 4000000 in
theorem L_X7_statementWord_120 {Γ : fhX} (hE : fhEok fhYF (fhEn Γ)) (hΓ : fhOk fhYF 7 cX7_statementWord 5 (some .int) Γ) (hd : 2 ≤ fhD Γ) (v0 : Nat) (v1 : Int32) (v3 : Int32) (hv0 : fhiP v0 = true) (σ : fhM) (o : Int32 × fhM) (h : f_X7_statementWord_120 v0 v1 v3 σ = o) (hk : (fun o => fhRet Γ (some (.int o.1)) o.2) o) : fhW fhYF Γ 120 [(0, .ref v0), (1, .int v1), (3, .int v3)] [] σ := by
  unfold f_X7_statementWord_120 at h
  refine fhW.blk fhPF fhLL hΓ [(.iconst 1, 1)] (pc' := 121) (lv' := [(0, .ref v0), (1, .int v1), (3, .int v3)]) (st' := [.int (1 : Int32)]) (σ' := σ) (by decide +kernel) rfl rfl rfl ?_
  refine fhW.goto hΓ (off := 4) (tgt := 125) (by decide +kernel) ?_
  refine fhW.sub (lv' := [(0, .ref v0), (1, .int v1), (3, .int v3)]) [0, 1, 2] rfl ?_
  exact L_X7_statementWord_125 hE hΓ hd v0 v1 v3 (1 : Int32) hv0 σ _ h hk
set_option maxRecDepth 100000 in
set_option maxHeartbeats 4000000 in
theorem L_X7_statementWord_92 {Γ : fhX} (hE : fhEok fhYF (fhEn Γ)) (hΓ : fhOk fhYF 7 cX7_statementWord 5 (some .int) Γ) (hd : 2 ≤ fhD Γ) (v0 : Nat) (v1 : Int32) (s0 : Int32) (hv0 : fhiP v0 = true) (σ : fhM) (o : Int32 × fhM) (h : f_X7_statementWord_92 v0 v1 s0 σ = o) (hk : (fun o => fhRet Γ (some (.int o.1)) o.2) o) : fhW fhYF Γ 92 [(0, .ref v0), (1, .int v1)] [.int s0] σ := by
  unfold f_X7_statementWord_92 at h
  refine fhW.blk fhPF fhLL hΓ [(.istore_n 3, 0), (.iload_n 1, 0), (.iconst 1, 1)] (pc' := 95) (lv' := [(3, .int s0), (0, .ref v0), (1, .int v1)]) (st' := [.int (1 : Int32), .int v1]) (σ' := σ) (by decide +kernel) rfl rfl rfl ?_
  refine fhW.i_eq hΓ (tgt := 120) (show fhbk _ _ (.if_icmp .eq (25)) _ = true by decide +kernel) (fun hc => ?_) (fun hc => ?_)
  · rw [if_pos hc] at h
    refine fhW.sub (lv' := [(0, .ref v0), (1, .int v1), (3, .int s0)]) [1, 2, 0] rfl ?_
    exact L_X7_statementWord_120 hE hΓ hd v0 v1 s0 hv0 σ _ h hk
  · rw [if_neg hc] at h
    refine fhW.blk fhPF fhLL hΓ [(.iload_n 1, 0), (.iconst 3, 3)] (pc' := 100) (lv' := [(3, .int s0), (0, .ref v0), (1, .int v1)]) (st' := [.int (3 : Int32), .int v1]) (σ' := σ) (by decide +kernel) rfl rfl rfl ?_
    refine fhW.i_eq hΓ (tgt := 120) (show fhbk _ _ (.if_icmp .eq (20)) _ = true by decide +kernel) (fun hc => ?_) (fun hc => ?_)
    · rw [if_pos hc] at h
      refine fhW.sub (lv' := [(0, .ref v0), (1, .int v1), (3, .int s0)]) [1, 2, 0] rfl ?_
      exact L_X7_statementWord_120 hE hΓ hd v0 v1 s0 hv0 σ _ h hk
    · rw [if_neg hc] at h
      refine fhW.blk fhPF fhLL hΓ [(.iload_n 1, 0), (.iconst 5, 5)] (pc' := 105) (lv' := [(3, .int s0), (0, .ref v0), (1, .int v1)]) (st' := [.int (5 : Int32), .int v1]) (σ' := σ) (by decide +kernel) rfl rfl rfl ?_
      refine fhW.i_eq hΓ (tgt := 120) (show fhbk _ _ (.if_icmp .eq (15)) _ = true by decide +kernel) (fun hc => ?_) (fun hc => ?_)
      · rw [if_pos hc] at h
        refine fhW.sub (lv' := [(0, .ref v0), (1, .int v1), (3, .int s0)]) [1, 2, 0] rfl ?_
        exact L_X7_statementWord_120 hE hΓ hd v0 v1 s0 hv0 σ _ h hk
      · rw [if_neg hc] at h
        refine fhW.blk fhPF fhLL hΓ [(.iload_n 1, 0), (.bipush 6, 6)] (pc' := 111) (lv' := [(3, .int s0), (0, .ref v0), (1, .int v1)]) (st' := [.int (6 : Int32), .int v1]) (σ' := σ) (by decide +kernel) rfl rfl rfl ?_
        refine fhW.i_eq hΓ (tgt := 120) (show fhbk _ _ (.if_icmp .eq (9)) _ = true by decide +kernel) (fun hc => ?_) (fun hc => ?_)
        · rw [if_pos hc] at h
          refine fhW.sub (lv' := [(0, .ref v0), (1, .int v1), (3, .int s0)]) [1, 2, 0] rfl ?_
          exact L_X7_statementWord_120 hE hΓ hd v0 v1 s0 hv0 σ _ h hk
        · rw [if_neg hc] at h
          refine fhW.blk fhPF fhLL hΓ [(.iload_n 1, 0), (.bipush 7, 7)] (pc' := 117) (lv' := [(3, .int s0), (0, .ref v0), (1, .int v1)]) (st' := [.int (7 : Int32), .int v1]) (σ' := σ) (by decide +kernel) rfl rfl rfl ?_
          refine fhW.i_ne hΓ (tgt := 124) (show fhbk _ _ (.if_icmp .ne (7)) _ = true by decide +kernel) (fun hc => ?_) (fun hc => ?_)
          · rw [if_neg hc] at h
            refine fhW.blk fhPF fhLL hΓ [(.iconst 0, 0)] (pc' := 125) (lv' := [(3, .int s0), (0, .ref v0), (1, .int v1)]) (st' := [.int (0 : Int32)]) (σ' := σ) (by decide +kernel) rfl rfl rfl ?_
            refine fhW.sub (lv' := [(0, .ref v0), (1, .int v1), (3, .int s0)]) [1, 2, 0] rfl ?_
            exact L_X7_statementWord_125 hE hΓ hd v0 v1 s0 (0 : Int32) hv0 σ _ h hk
          · rw [if_pos hc] at h
            refine fhW.sub (lv' := [(0, .ref v0), (1, .int v1), (3, .int s0)]) [1, 2, 0] rfl ?_
            exact L_X7_statementWord_120 hE hΓ hd v0 v1 s0 hv0 σ _ h hk
set_option maxRecDepth 100000 in
set_option maxHeartbeats 4000000 in
theorem L_X7_statementWord_83 {Γ : fhX} (hE : fhEok fhYF (fhEn Γ)) (hΓ : fhOk fhYF 7 cX7_statementWord 5 (some .int) Γ) (hd : 2 ≤ fhD Γ) (v0 : Nat) (v1 : Int32) (hv0 : fhiP v0 = true) (σ : fhM) (o : Int32 × fhM) (h : f_X7_statementWord_83 v0 v1 σ = o) (hk : (fun o => fhRet Γ (some (.int o.1)) o.2) o) : fhW fhYF Γ 83 [(0, .ref v0), (1, .int v1)] [] σ := by
  unfold f_X7_statementWord_83 at h
  refine fhW.blk fhPF fhLL hΓ [(.iload_n 1, 0)] (pc' := 84) (lv' := [(0, .ref v0), (1, .int v1)]) (st' := [.int v1]) (σ' := σ) (by decide +kernel) rfl rfl rfl ?_
  refine fhW.z_ne hΓ (tgt := 91) (show fhbk _ _ (.ifCond .ne (7)) _ = true by decide +kernel) (fun hc => ?_) (fun hc => ?_)
  · simp only [if_neg hc] at h
    refine fhW.blk fhPF fhLL hΓ [(.iconst 0, 0)] (pc' := 92) (lv' := [(0, .ref v0), (1, .int v1)]) (st' := [.int (0 : Int32)]) (σ' := σ) (by decide +kernel) rfl rfl rfl ?_
    refine fhW.sub (lv' := [(0, .ref v0), (1, .int v1)]) [0, 1] rfl ?_
    exact L_X7_statementWord_92 hE hΓ hd v0 v1 (0 : Int32) hv0 σ _ h hk
  · simp only [if_pos hc] at h
    refine fhW.blk fhPF fhLL hΓ [(.iconst 1, 1)] (pc' := 88) (lv' := [(0, .ref v0), (1, .int v1)]) (st' := [.int (1 : Int32)]) (σ' := σ) (by decide +kernel) rfl rfl rfl ?_
    refine fhW.goto hΓ (off := 4) (tgt := 92) (by decide +kernel) ?_
    refine fhW.sub (lv' := [(0, .ref v0), (1, .int v1)]) [0, 1] rfl ?_
    exact L_X7_statementWord_92 hE hΓ hd v0 v1 (1 : Int32) hv0 σ _ h hk
set_option maxRecDepth 100000 in
set_option maxHeartbeats 4000000 in
theorem L_X7_statementWord_63 {Γ : fhX} (hE : fhEok fhYF (fhEn Γ)) (hΓ : fhOk fhYF 7 cX7_statementWord 5 (some .int) Γ) (hd : 2 ≤ fhD Γ) (v0 : Nat) (v1 : Int32) (s0 : Int32) (hv0 : fhiP v0 = true) (σ : fhM) (o : Int32 × fhM) (h : f_X7_statementWord_63 v0 v1 s0 σ = o) (hk : (fun o => fhRet Γ (some (.int o.1)) o.2) o) : fhW fhYF Γ 63 [(0, .ref v0), (1, .int v1)] [.int s0] σ := by
  unfold f_X7_statementWord_63 at h
  refine fhW.blk fhPF fhLL hΓ [(.istore_n 2, 0), (.iload_n 2, 0)] (pc' := 65) (lv' := [(2, .int s0), (0, .ref v0), (1, .int v1)]) (st' := [.int s0]) (σ' := σ) (by decide +kernel) rfl rfl rfl ?_
  refine fhW.z_eq hΓ (tgt := 83) (show fhbk _ _ (.ifCond .eq (18)) _ = true by decide +kernel) (fun hc => ?_) (fun hc => ?_)
  · rw [if_pos hc] at h
    refine fhW.sub (lv' := [(0, .ref v0), (1, .int v1)]) [1, 2] rfl ?_
    exact L_X7_statementWord_83 hE hΓ hd v0 v1 hv0 σ _ h hk
  · rw [if_neg hc] at h
    refine fhW.blk fhPF fhLL hΓ [(.aload_n 0, 0), (.getfield 36, 0), (.iconst 5, 5), (.aload_n 0, 0), (.getfield 36, 0), (.getfield 134, 0)] (pc' := 80) (lv' := [(2, .int s0), (0, .ref v0), (1, .int v1)]) (st' := [.int (σ.1 3 8), .int (5 : Int32), .ref 3]) (σ' := σ) (by decide +kernel) rfl rfl (by rcases fhiP_or hv0 with rfl | rfl <;> rfl) ?_
    refine fhW.callv hΓ mvX8_fail ml_7_137 (t := 3) (ci := 8) (av := [.int (5 : Int32), .int (σ.1 3 8)]) (rest := []) (r := none) (σ' := (f_X8_fail (5 : Int32) (σ.1 3 8) σ)) (T_X8_fail (E := fhEn Γ) (d := fhD Γ - 1) hE (by omega) (5 : Int32) (σ.1 3 8) σ) (by omega) (by decide +kernel) rfl rfl rfl (Nat.le_of_ble_eq_true rfl) rfl ?_
    show fhW fhYF Γ 83 [(2, .int s0), (0, .ref v0), (1, .int v1)] [] (f_X8_fail (5 : Int32) (σ.1 3 8) σ)
    obtain ⟨q1, e2, h⟩ := fhlet_elim h
    rw [← e2]
    refine fhW.sub (lv' := [(0, .ref v0), (1, .int v1)]) [1, 2] rfl ?_
    exact L_X7_statementWord_83 hE hΓ hd v0 v1 hv0 q1 _ h hk
set_option maxRecDepth 100000 in
set_option maxHeartbeats 4000000 in
theorem L_X7_statementWord_58 {Γ : fhX} (hE : fhEok fhYF (fhEn Γ)) (hΓ : fhOk fhYF 7 cX7_statementWord 5 (some .int) Γ) (hd : 2 ≤ fhD Γ) (v0 : Nat) (v1 : Int32) (hv0 : fhiP v0 = true) (σ : fhM) (o : Int32 × fhM) (h : f_X7_statementWord_58 v0 v1 σ = o) (hk : (fun o => fhRet Γ (some (.int o.1)) o.2) o) : fhW fhYF Γ 58 [(0, .ref v0), (1, .int v1)] [] σ := by
  unfold f_X7_statementWord_58 at h
  refine fhW.blk fhPF fhLL hΓ [(.iconst 1, 1)] (pc' := 59) (lv' := [(0, .ref v0), (1, .int v1)]) (st' := [.int (1 : Int32)]) (σ' := σ) (by decide +kernel) rfl rfl rfl ?_
  refine fhW.goto hΓ (off := 4) (tgt := 63) (by decide +kernel) ?_
  refine fhW.sub (lv' := [(0, .ref v0), (1, .int v1)]) [0, 1] rfl ?_
  exact L_X7_statementWord_63 hE hΓ hd v0 v1 (1 : Int32) hv0 σ _ h hk
set_option maxRecDepth 100000 in
set_option maxHeartbeats 4000000 in
theorem L_X7_statementWord_49 {Γ : fhX} (hE : fhEok fhYF (fhEn Γ)) (hΓ : fhOk fhYF 7 cX7_statementWord 5 (some .int) Γ) (hd : 2 ≤ fhD Γ) (v0 : Nat) (v1 : Int32) (hv0 : fhiP v0 = true) (σ : fhM) (o : Int32 × fhM) (h : f_X7_statementWord_49 v0 v1 σ = o) (hk : (fun o => fhRet Γ (some (.int o.1)) o.2) o) : fhW fhYF Γ 49 [(0, .ref v0), (1, .int v1)] [] σ := by
  unfold f_X7_statementWord_49 at h
  refine fhW.blk fhPF fhLL hΓ [(.aload_n 0, 0), (.getfield 53, 0), (.bipush 60, 60)] (pc' := 55) (lv' := [(0, .ref v0), (1, .int v1)]) (st' := [.int (60 : Int32), .int (σ.1 v0 8)]) (σ' := σ) (by decide +kernel) rfl rfl (by rcases fhiP_or hv0 with rfl | rfl <;> rfl) ?_
  refine fhW.i_lt hΓ (tgt := 62) (show fhbk _ _ (.if_icmp .lt (7)) _ = true by decide +kernel) (fun hc => ?_) (fun hc => ?_)
  · rw [if_pos hc] at h
    refine fhW.blk fhPF fhLL hΓ [(.iconst 0, 0)] (pc' := 63) (lv' := [(0, .ref v0), (1, .int v1)]) (st' := [.int (0 : Int32)]) (σ' := σ) (by decide +kernel) rfl rfl rfl ?_
    refine fhW.sub (lv' := [(0, .ref v0), (1, .int v1)]) [0, 1] rfl ?_
    exact L_X7_statementWord_63 hE hΓ hd v0 v1 (0 : Int32) hv0 σ _ h hk
  · rw [if_neg hc] at h
    refine fhW.sub (lv' := [(0, .ref v0), (1, .int v1)]) [0, 1] rfl ?_
    exact L_X7_statementWord_58 hE hΓ hd v0 v1 hv0 σ _ h hk
set_option maxRecDepth 100000 in
set_option maxHeartbeats 4000000 in
theorem L_X7_statementWord_34 {Γ : fhX} (hE : fhEok fhYF (fhEn Γ)) (hΓ : fhOk fhYF 7 cX7_statementWord 5 (some .int) Γ) (hd : 2 ≤ fhD Γ) (v0 : Nat) (v1 : Int32) (hv0 : fhiP v0 = true) (σ : fhM) (o : Int32 × fhM) (h : f_X7_statementWord_34 v0 v1 σ = o) (hk : (fun o => fhRet Γ (some (.int o.1)) o.2) o) : fhW fhYF Γ 34 [(0, .ref v0), (1, .int v1)] [] σ := by
  unfold f_X7_statementWord_34 at h
  refine fhW.blk fhPF fhLL hΓ [(.iload_n 1, 0), (.bipush 6, 6)] (pc' := 37) (lv' := [(0, .ref v0), (1, .int v1)]) (st' := [.int (6 : Int32), .int v1]) (σ' := σ) (by decide +kernel) rfl rfl rfl ?_
  refine fhW.i_ne hΓ (tgt := 49) (show fhbk _ _ (.if_icmp .ne (12)) _ = true by decide +kernel) (fun hc => ?_) (fun hc => ?_)
  · rw [if_neg hc] at h
    refine fhW.sub (lv' := [(0, .ref v0), (1, .int v1)]) [0, 1] rfl ?_
    exact L_X7_statementWord_49 hE hΓ hd v0 v1 hv0 σ _ h hk
  · rw [if_pos hc] at h
    refine fhW.blk fhPF fhLL hΓ [(.aload_n 0, 0), (.getfield 85, 0), (.bipush 8, 8)] (pc' := 46) (lv' := [(0, .ref v0), (1, .int v1)]) (st' := [.int (8 : Int32), .int (σ.1 v0 12)]) (σ' := σ) (by decide +kernel) rfl rfl (by rcases fhiP_or hv0 with rfl | rfl <;> rfl) ?_
    refine fhW.i_ge hΓ (tgt := 58) (show fhbk _ _ (.if_icmp .ge (12)) _ = true by decide +kernel) (fun hc => ?_) (fun hc => ?_)
    · rw [if_pos hc] at h
      refine fhW.sub (lv' := [(0, .ref v0), (1, .int v1)]) [0, 1] rfl ?_
      exact L_X7_statementWord_58 hE hΓ hd v0 v1 hv0 σ _ h hk
    · rw [if_neg hc] at h
      refine fhW.sub (lv' := [(0, .ref v0), (1, .int v1)]) [0, 1] rfl ?_
      exact L_X7_statementWord_49 hE hΓ hd v0 v1 hv0 σ _ h hk
set_option maxRecDepth 100000 in
set_option maxHeartbeats 4000000 in
theorem L_X7_statementWord_21 {Γ : fhX} (hE : fhEok fhYF (fhEn Γ)) (hΓ : fhOk fhYF 7 cX7_statementWord 5 (some .int) Γ) (hd : 2 ≤ fhD Γ) (v0 : Nat) (v1 : Int32) (hv0 : fhiP v0 = true) (σ : fhM) (o : Int32 × fhM) (h : f_X7_statementWord_21 v0 v1 σ = o) (hk : (fun o => fhRet Γ (some (.int o.1)) o.2) o) : fhW fhYF Γ 21 [(0, .ref v0), (1, .int v1)] [] σ := by
  unfold f_X7_statementWord_21 at h
  refine fhW.blk fhPF fhLL hΓ [(.iload_n 1, 0), (.iconst 5, 5)] (pc' := 23) (lv' := [(0, .ref v0), (1, .int v1)]) (st' := [.int (5 : Int32), .int v1]) (σ' := σ) (by decide +kernel) rfl rfl rfl ?_
  refine fhW.i_ne hΓ (tgt := 34) (show fhbk _ _ (.if_icmp .ne (11)) _ = true by decide +kernel) (fun hc => ?_) (fun hc => ?_)
  · rw [if_neg hc] at h
    refine fhW.sub (lv' := [(0, .ref v0), (1, .int v1)]) [0, 1] rfl ?_
    exact L_X7_statementWord_34 hE hΓ hd v0 v1 hv0 σ _ h hk
  · rw [if_pos hc] at h
    refine fhW.blk fhPF fhLL hΓ [(.aload_n 0, 0), (.getfield 82, 0), (.iconst 4, 4)] (pc' := 31) (lv' := [(0, .ref v0), (1, .int v1)]) (st' := [.int (4 : Int32), .int (σ.1 v0 11)]) (σ' := σ) (by decide +kernel) rfl rfl (by rcases fhiP_or hv0 with rfl | rfl <;> rfl) ?_
    refine fhW.i_ge hΓ (tgt := 58) (show fhbk _ _ (.if_icmp .ge (27)) _ = true by decide +kernel) (fun hc => ?_) (fun hc => ?_)
    · rw [if_pos hc] at h
      refine fhW.sub (lv' := [(0, .ref v0), (1, .int v1)]) [0, 1] rfl ?_
      exact L_X7_statementWord_58 hE hΓ hd v0 v1 hv0 σ _ h hk
    · rw [if_neg hc] at h
      refine fhW.sub (lv' := [(0, .ref v0), (1, .int v1)]) [0, 1] rfl ?_
      exact L_X7_statementWord_34 hE hΓ hd v0 v1 hv0 σ _ h hk
set_option maxRecDepth 100000 in
set_option maxHeartbeats 4000000 in
theorem L_X7_statementWord_E {Γ : fhX} (hE : fhEok fhYF (fhEn Γ)) (hΓ : fhOk fhYF 7 cX7_statementWord 5 (some .int) Γ) (hd : 2 ≤ fhD Γ) (v0 : Nat) (hv0 : fhiP v0 = true) (σ : fhM) (o : Int32 × fhM) (h : f_X7_statementWord v0 σ = o) (hk : (fun o => fhRet Γ (some (.int o.1)) o.2) o) : fhW fhYF Γ 0 [(0, .ref v0)] [] σ := by
  unfold f_X7_statementWord at h
  refine fhW.blk fhPF fhLL hΓ [(.aload_n 0, 0), (.getfield 36, 0)] (pc' := 4) (lv' := [(0, .ref v0)]) (st' := [.ref 3]) (σ' := σ) (by decide +kernel) rfl rfl (by rcases fhiP_or hv0 with rfl | rfl <;> rfl) ?_
  refine fhW.callv hΓ mvX8_wordHere ml_7_131 (t := 3) (ci := 8) (av := []) (rest := []) (r := (some (.int (f_X8_wordHere σ)))) (σ' := σ) (T_X8_wordHere (E := fhEn Γ) (d := fhD Γ - 1) hE (by omega) σ) (by omega) (by decide +kernel) rfl rfl rfl (Nat.le_of_ble_eq_true rfl) rfl ?_
  show fhW fhYF Γ 7 [(0, .ref v0)] [.int (f_X8_wordHere σ)] σ
  refine fhW.blk fhPF fhLL hΓ [(.istore_n 1, 0), (.iload_n 1, 0), (.iconst 1, 1)] (pc' := 10) (lv' := [(1, .int (f_X8_wordHere σ)), (0, .ref v0)]) (st' := [.int (1 : Int32), .int (f_X8_wordHere σ)]) (σ' := σ) (by decide +kernel) rfl rfl rfl ?_
  refine fhW.i_ne hΓ (tgt := 21) (show fhbk _ _ (.if_icmp .ne (11)) _ = true by decide +kernel) (fun hc => ?_) (fun hc => ?_)
  · rw [if_neg hc] at h
    refine fhW.sub (lv' := [(0, .ref v0), (1, .int (f_X8_wordHere σ))]) [1, 0] rfl ?_
    exact L_X7_statementWord_21 hE hΓ hd v0 (f_X8_wordHere σ) hv0 σ _ h hk
  · rw [if_pos hc] at h
    refine fhW.blk fhPF fhLL hΓ [(.aload_n 0, 0), (.getfield 69, 0), (.iconst 5, 5)] (pc' := 18) (lv' := [(1, .int (f_X8_wordHere σ)), (0, .ref v0)]) (st' := [.int (5 : Int32), .int (σ.1 v0 10)]) (σ' := σ) (by decide +kernel) rfl rfl (by rcases fhiP_or hv0 with rfl | rfl <;> rfl) ?_
    refine fhW.i_ge hΓ (tgt := 58) (show fhbk _ _ (.if_icmp .ge (40)) _ = true by decide +kernel) (fun hc => ?_) (fun hc => ?_)
    · rw [if_pos hc] at h
      refine fhW.sub (lv' := [(0, .ref v0), (1, .int (f_X8_wordHere σ))]) [1, 0] rfl ?_
      exact L_X7_statementWord_58 hE hΓ hd v0 (f_X8_wordHere σ) hv0 σ _ h hk
    · rw [if_neg hc] at h
      refine fhW.sub (lv' := [(0, .ref v0), (1, .int (f_X8_wordHere σ))]) [1, 0] rfl ?_
      exact L_X7_statementWord_21 hE hΓ hd v0 (f_X8_wordHere σ) hv0 σ _ h hk
set_option maxRecDepth 100000 in
theorem T_X7_statementWord {E : fhE} {d : Nat} (hE : fhEok fhYF E) (hd : 2 ≤ d) (v0 : Nat) (hv0 : fhiP v0 = true) (σ : fhM) : fhC fhYF E d miX7_statementWord [.ref v0] σ (some (.int (f_X7_statementWord v0 σ).1)) (f_X7_statementWord v0 σ).2 := by
  refine fhC.of (y := yX7_statementWord) (cc := cX7_statementWord) (nL := 5) (ret := (some .int)) 7 rfl (by decide +kernel) (Nat.le_of_ble_eq_true rfl) ?_
  intro Γ hΓ hR hD hEn
  subst hD; subst hEn
  exact L_X7_statementWord_E hE hΓ hd v0 hv0 σ _ rfl hR
set_option maxRecDepth 100000 in
set_option maxHeartbeats 4000000 in
theorem L_X8_takeNumber_36 {Γ : fhX} (hE : fhEok fhYF (fhEn Γ)) (hΓ : fhOk fhYF 8 cX8_takeNumber 2 (some .int) Γ) (hd : 2 ≤ fhD Γ)   (σ : fhM) (o : Int32 × fhM) (h : f_X8_takeNumber_36 σ = o) (hk : (fun o => fhRet Γ (some (.int o.1)) o.2) o) : fhW fhYF Γ 36 [(0, .ref 3)] [] σ := by
  unfold f_X8_takeNumber_36 at h
  refine fhW.blk fhPF fhLL hΓ [(.aload_n 0, 0), (.getfield 87, 0), (.istore_n 1, 0), (.aload_n 0, 0)] (pc' := 42) (lv' := [(1, .int (σ.1 3 6)), (0, .ref 3)]) (st' := [.ref 3]) (σ' := σ) (by decide +kernel) rfl rfl rfl ?_
  refine fhW.callv hΓ mvX8_advance ml_8_44 (t := 3) (ci := 8) (av := []) (rest := []) (r := none) (σ' := (f_X8_advance σ)) (T_X8_advance (E := fhEn Γ) (d := fhD Γ - 1) hE (by omega) σ) (by omega) (by decide +kernel) rfl rfl rfl (Nat.le_of_ble_eq_true rfl) rfl ?_
  show fhW fhYF Γ 45 [(1, .int (σ.1 3 6)), (0, .ref 3)] [] (f_X8_advance σ)
  obtain ⟨q3, e1, h⟩ := fhlet_elim h
  rw [← e1]
  refine fhW.blk fhPF fhLL hΓ [(.iload_n 1, 0)] (pc' := 46) (lv' := [(1, .int (σ.1 3 6)), (0, .ref 3)]) (st' := [.int (σ.1 3 6)]) (σ' := q3) (by decide +kernel) rfl rfl rfl ?_
  subst h
  exact fhW.iret hΓ (by decide +kernel) hk
set_option maxRecDepth 100000 in
set_option maxHeartbeats 4000000 in
theorem L_X8_takeNumber_12 {Γ : fhX} (hE : fhEok fhYF (fhEn Γ)) (hΓ : fhOk fhYF 8 cX8_takeNumber 2 (some .int) Γ) (hd : 2 ≤ fhD Γ)   (σ : fhM) (o : Int32 × fhM) (h : f_X8_takeNumber_12 σ = o) (hk : (fun o => fhRet Γ (some (.int o.1)) o.2) o) : fhW fhYF Γ 12 [(0, .ref 3)] [] σ := by
  unfold f_X8_takeNumber_12 at h
  refine fhW.blk fhPF fhLL hΓ [(.aload_n 0, 0), (.getfield 84, 0), (.aload_n 0, 0), (.getfield 78, 0), (.isub, 0), (.iconst 4, 4)] (pc' := 22) (lv' := [(0, .ref 3)]) (st' := [.int (4 : Int32), .int ((σ.1 3 5) - (σ.1 3 8))]) (σ' := σ) (by decide +kernel) rfl rfl rfl ?_
  refine fhW.i_le hΓ (tgt := 36) (show fhbk _ _ (.if_icmp .le (14)) _ = true by decide +kernel) (fun hc => ?_) (fun hc => ?_)
  · rw [if_pos hc] at h
    refine fhW.sub (lv' := [(0, .ref 3)]) [0] rfl ?_
    exact L_X8_takeNumber_36 hE hΓ hd σ _ h hk
  · rw [if_neg hc] at h
    refine fhW.blk fhPF fhLL hΓ [(.aload_n 0, 0), (.iconst 1, 1), (.aload_n 0, 0), (.getfield 78, 0), (.iconst 4, 4), (.iadd, 0)] (pc' := 33) (lv' := [(0, .ref 3)]) (st' := [.int ((σ.1 3 8) + (4 : Int32)), .int (1 : Int32), .ref 3]) (σ' := σ) (by decide +kernel) rfl rfl rfl ?_
    refine fhW.callv hΓ mvX8_fail ml_8_81 (t := 3) (ci := 8) (av := [.int (1 : Int32), .int ((σ.1 3 8) + (4 : Int32))]) (rest := []) (r := none) (σ' := (f_X8_fail (1 : Int32) ((σ.1 3 8) + (4 : Int32)) σ)) (T_X8_fail (E := fhEn Γ) (d := fhD Γ - 1) hE (by omega) (1 : Int32) ((σ.1 3 8) + (4 : Int32)) σ) (by omega) (by decide +kernel) rfl rfl rfl (Nat.le_of_ble_eq_true rfl) rfl ?_
    show fhW fhYF Γ 36 [(0, .ref 3)] [] (f_X8_fail (1 : Int32) ((σ.1 3 8) + (4 : Int32)) σ)
    obtain ⟨q2, e2, h⟩ := fhlet_elim h
    rw [← e2]
    refine fhW.sub (lv' := [(0, .ref 3)]) [0] rfl ?_
    exact L_X8_takeNumber_36 hE hΓ hd q2 _ h hk
set_option maxRecDepth 100000 in
set_option maxHeartbeats 4000000 in
theorem L_X8_takeNumber_E {Γ : fhX} (hE : fhEok fhYF (fhEn Γ)) (hΓ : fhOk fhYF 8 cX8_takeNumber 2 (some .int) Γ) (hd : 2 ≤ fhD Γ)   (σ : fhM) (o : Int32 × fhM) (h : f_X8_takeNumber σ = o) (hk : (fun o => fhRet Γ (some (.int o.1)) o.2) o) : fhW fhYF Γ 0 [(0, .ref 3)] [] σ := by
  unfold f_X8_takeNumber at h
  refine fhW.blk fhPF fhLL hΓ [(.aload_n 0, 0), (.getfield 75, 0), (.iconst 2, 2)] (pc' := 5) (lv' := [(0, .ref 3)]) (st' := [.int (2 : Int32), .int (σ.1 3 4)]) (σ' := σ) (by decide +kernel) rfl rfl rfl ?_
  refine fhW.i_eq hΓ (tgt := 12) (show fhbk _ _ (.if_icmp .eq (7)) _ = true by decide +kernel) (fun hc => ?_) (fun hc => ?_)
  · rw [if_pos hc] at h
    refine fhW.sub (lv' := [(0, .ref 3)]) [0] rfl ?_
    exact L_X8_takeNumber_12 hE hΓ hd σ _ h hk
  · rw [if_neg hc] at h
    refine fhW.blk fhPF fhLL hΓ [(.aload_n 0, 0)] (pc' := 9) (lv' := [(0, .ref 3)]) (st' := [.ref 3]) (σ' := σ) (by decide +kernel) rfl rfl rfl ?_
    refine fhW.callv hΓ mvX8_failHere ml_8_97 (t := 3) (ci := 8) (av := []) (rest := []) (r := none) (σ' := (f_X8_failHere σ)) (T_X8_failHere (E := fhEn Γ) (d := fhD Γ - 1) hE (by omega) σ) (by omega) (by decide +kernel) rfl rfl rfl (Nat.le_of_ble_eq_true rfl) rfl ?_
    show fhW fhYF Γ 12 [(0, .ref 3)] [] (f_X8_failHere σ)
    obtain ⟨q1, e3, h⟩ := fhlet_elim h
    rw [← e3]
    refine fhW.sub (lv' := [(0, .ref 3)]) [0] rfl ?_
    exact L_X8_takeNumber_12 hE hΓ hd q1 _ h hk
set_option maxRecDepth 100000 in
theorem T_X8_takeNumber {E : fhE} {d : Nat} (hE : fhEok fhYF E) (hd : 2 ≤ d)   (σ : fhM) : fhC fhYF E d miX8_takeNumber [.ref 3] σ (some (.int (f_X8_takeNumber σ).1)) (f_X8_takeNumber σ).2 := by
  refine fhC.of (y := yX8_takeNumber) (cc := cX8_takeNumber) (nL := 2) (ret := (some .int)) 8 rfl (by decide +kernel) (Nat.le_of_ble_eq_true rfl) ?_
  intro Γ hΓ hR hD hEn
  subst hD; subst hEn
  exact L_X8_takeNumber_E hE hΓ hd   σ _ rfl hR
set_option maxRecDepth 100000 in
set_option maxHeartbeats 4000000 in
theorem L_X8_takeNumberWithin_23 {Γ : fhX} (hE : fhEok fhYF (fhEn Γ)) (hΓ : fhOk fhYF 8 cX8_takeNumberWithin 5 (some .int) Γ) (hd : 3 ≤ fhD Γ) (v3 : Int32) (v4 : Int32)  (σ : fhM) (o : Int32 × fhM) (h : f_X8_takeNumberWithin_23 v3 v4 σ = o) (hk : (fun o => fhRet Γ (some (.int o.1)) o.2) o) : fhW fhYF Γ 23 [(0, .ref 3), (3, .int v3), (4, .int v4)] [] σ := by
  unfold f_X8_takeNumberWithin_23 at h
  refine fhW.blk fhPF fhLL hΓ [(.aload_n 0, 0), (.iconst 2, 2), (.iload_n 3, 0)] (pc' := 26) (lv' := [(0, .ref 3), (3, .int v3), (4, .int v4)]) (st' := [.int v3, .int (2 : Int32), .ref 3]) (σ' := σ) (by decide +kernel) rfl rfl rfl ?_
  refine fhW.callv hΓ mvX8_fail ml_8_81 (t := 3) (ci := 8) (av := [.int (2 : Int32), .int v3]) (rest := []) (r := none) (σ' := (f_X8_fail (2 : Int32) v3 σ)) (T_X8_fail (E := fhEn Γ) (d := fhD Γ - 1) hE (by omega) (2 : Int32) v3 σ) (by omega) (by decide +kernel) rfl rfl rfl (Nat.le_of_ble_eq_true rfl) rfl ?_
  show fhW fhYF Γ 29 [(0, .ref 3), (3, .int v3), (4, .int v4)] [] (f_X8_fail (2 : Int32) v3 σ)
  obtain ⟨q2, e1, h⟩ := fhlet_elim h
  rw [← e1]
  refine fhW.blk fhPF fhLL hΓ [(.iload 4, 0)] (pc' := 31) (lv' := [(0, .ref 3), (3, .int v3), (4, .int v4)]) (st' := [.int v4]) (σ' := q2) (by decide +kernel) rfl rfl rfl ?_
  subst h
  exact fhW.iret hΓ (by decide +kernel) hk
set_option maxRecDepth 100000 in
set_option maxHeartbeats 4000000 in
theorem L_X8_takeNumberWithin_E {Γ : fhX} (hE : fhEok fhYF (fhEn Γ)) (hΓ : fhOk fhYF 8 cX8_takeNumberWithin 5 (some .int) Γ) (hd : 3 ≤ fhD Γ) (v1 : Int32) (v2 : Int32)  (σ : fhM) (o : Int32 × fhM) (h : f_X8_takeNumberWithin v1 v2 σ = o) (hk : (fun o => fhRet Γ (some (.int o.1)) o.2) o) : fhW fhYF Γ 0 [(0, .ref 3), (1, .int v1), (2, .int v2)] [] σ := by
  unfold f_X8_takeNumberWithin at h
  refine fhW.blk fhPF fhLL hΓ [(.aload_n 0, 0), (.getfield 78, 0), (.istore_n 3, 0), (.aload_n 0, 0)] (pc' := 6) (lv' := [(3, .int (σ.1 3 8)), (0, .ref 3), (1, .int v1), (2, .int v2)]) (st' := [.ref 3]) (σ' := σ) (by decide +kernel) rfl rfl rfl ?_
  refine fhW.callv hΓ mvX8_takeNumber ml_8_104 (t := 3) (ci := 8) (av := []) (rest := []) (r := (some (.int (f_X8_takeNumber σ).1))) (σ' := (f_X8_takeNumber σ).2) (T_X8_takeNumber (E := fhEn Γ) (d := fhD Γ - 1) hE (by omega) σ) (by omega) (by decide +kernel) rfl rfl rfl (Nat.le_of_ble_eq_true rfl) rfl ?_
  show fhW fhYF Γ 9 [(3, .int (σ.1 3 8)), (0, .ref 3), (1, .int v1), (2, .int v2)] [.int (f_X8_takeNumber σ).1] (f_X8_takeNumber σ).2
  obtain ⟨q1, e2, h⟩ := fhlet_elim h
  rw [← e2]
  refine fhW.blk fhPF fhLL hΓ [(.istore 4, 0), (.iload 4, 0), (.iload_n 1, 0)] (pc' := 14) (lv' := [(4, .int q1.1), (3, .int (σ.1 3 8)), (0, .ref 3), (1, .int v1), (2, .int v2)]) (st' := [.int v1, .int q1.1]) (σ' := q1.2) (by decide +kernel) rfl rfl rfl ?_
  refine fhW.i_lt hΓ (tgt := 23) (show fhbk _ _ (.if_icmp .lt (9)) _ = true by decide +kernel) (fun hc => ?_) (fun hc => ?_)
  · rw [if_pos hc] at h
    refine fhW.sub (lv' := [(0, .ref 3), (3, .int (σ.1 3 8)), (4, .int q1.1)]) [2, 1, 0] rfl ?_
    exact L_X8_takeNumberWithin_23 hE hΓ hd (σ.1 3 8) q1.1 q1.2 _ h hk
  · rw [if_neg hc] at h
    refine fhW.blk fhPF fhLL hΓ [(.iload 4, 0), (.iload_n 2, 0)] (pc' := 20) (lv' := [(4, .int q1.1), (3, .int (σ.1 3 8)), (0, .ref 3), (1, .int v1), (2, .int v2)]) (st' := [.int v2, .int q1.1]) (σ' := q1.2) (by decide +kernel) rfl rfl rfl ?_
    refine fhW.i_le hΓ (tgt := 29) (show fhbk _ _ (.if_icmp .le (9)) _ = true by decide +kernel) (fun hc => ?_) (fun hc => ?_)
    · rw [if_pos hc] at h
      refine fhW.blk fhPF fhLL hΓ [(.iload 4, 0)] (pc' := 31) (lv' := [(4, .int q1.1), (3, .int (σ.1 3 8)), (0, .ref 3), (1, .int v1), (2, .int v2)]) (st' := [.int q1.1]) (σ' := q1.2) (by decide +kernel) rfl rfl rfl ?_
      subst h
      exact fhW.iret hΓ (by decide +kernel) hk
    · rw [if_neg hc] at h
      refine fhW.sub (lv' := [(0, .ref 3), (3, .int (σ.1 3 8)), (4, .int q1.1)]) [2, 1, 0] rfl ?_
      exact L_X8_takeNumberWithin_23 hE hΓ hd (σ.1 3 8) q1.1 q1.2 _ h hk
set_option maxRecDepth 100000 in
theorem T_X8_takeNumberWithin {E : fhE} {d : Nat} (hE : fhEok fhYF E) (hd : 3 ≤ d) (v1 : Int32) (v2 : Int32)  (σ : fhM) : fhC fhYF E d miX8_takeNumberWithin [.ref 3, .int v1, .int v2] σ (some (.int (f_X8_takeNumberWithin v1 v2 σ).1)) (f_X8_takeNumberWithin v1 v2 σ).2 := by
  refine fhC.of (y := yX8_takeNumberWithin) (cc := cX8_takeNumberWithin) (nL := 5) (ret := (some .int)) 8 rfl (by decide +kernel) (Nat.le_of_ble_eq_true rfl) ?_
  intro Γ hΓ hR hD hEn
  subst hD; subst hEn
  exact L_X8_takeNumberWithin_E hE hΓ hd v1 v2  σ _ rfl hR
set_option maxRecDepth 100000 in
set_option maxHeartbeats 4000000 in
theorem L_X8_takeName_47 {Γ : fhX} (hE : fhEok fhYF (fhEn Γ)) (hΓ : fhOk fhYF 8 cX8_takeName 2 (some .int) Γ) (hd : 2 ≤ fhD Γ)   (σ : fhM) (o : Int32 × fhM) (h : f_X8_takeName_47 σ = o) (hk : (fun o => fhRet Γ (some (.int o.1)) o.2) o) : fhW fhYF Γ 47 [(0, .ref 3)] [] σ := by
  unfold f_X8_takeName_47 at h
  refine fhW.blk fhPF fhLL hΓ [(.aload_n 0, 0), (.getfield 87, 0), (.istore_n 1, 0), (.aload_n 0, 0)] (pc' := 53) (lv' := [(1, .int (σ.1 3 6)), (0, .ref 3)]) (st' := [.ref 3]) (σ' := σ) (by decide +kernel) rfl rfl rfl ?_
  refine fhW.callv hΓ mvX8_advance ml_8_44 (t := 3) (ci := 8) (av := []) (rest := []) (r := none) (σ' := (f_X8_advance σ)) (T_X8_advance (E := fhEn Γ) (d := fhD Γ - 1) hE (by omega) σ) (by omega) (by decide +kernel) rfl rfl rfl (Nat.le_of_ble_eq_true rfl) rfl ?_
  show fhW fhYF Γ 56 [(1, .int (σ.1 3 6)), (0, .ref 3)] [] (f_X8_advance σ)
  obtain ⟨q3, e1, h⟩ := fhlet_elim h
  rw [← e1]
  refine fhW.blk fhPF fhLL hΓ [(.iload_n 1, 0)] (pc' := 57) (lv' := [(1, .int (σ.1 3 6)), (0, .ref 3)]) (st' := [.int (σ.1 3 6)]) (σ' := q3) (by decide +kernel) rfl rfl rfl ?_
  subst h
  exact fhW.iret hΓ (by decide +kernel) hk
set_option maxRecDepth 100000 in
set_option maxHeartbeats 4000000 in
theorem L_X8_takeName_21 {Γ : fhX} (hE : fhEok fhYF (fhEn Γ)) (hΓ : fhOk fhYF 8 cX8_takeName 2 (some .int) Γ) (hd : 2 ≤ fhD Γ)   (σ : fhM) (o : Int32 × fhM) (h : f_X8_takeName_21 σ = o) (hk : (fun o => fhRet Γ (some (.int o.1)) o.2) o) : fhW fhYF Γ 21 [(0, .ref 3)] [] σ := by
  unfold f_X8_takeName_21 at h
  refine fhW.blk fhPF fhLL hΓ [(.aload_n 0, 0), (.getfield 84, 0), (.aload_n 0, 0), (.getfield 78, 0), (.isub, 0), (.bipush 6, 6)] (pc' := 32) (lv' := [(0, .ref 3)]) (st' := [.int (6 : Int32), .int ((σ.1 3 5) - (σ.1 3 8))]) (σ' := σ) (by decide +kernel) rfl rfl rfl ?_
  refine fhW.i_le hΓ (tgt := 47) (show fhbk _ _ (.if_icmp .le (15)) _ = true by decide +kernel) (fun hc => ?_) (fun hc => ?_)
  · rw [if_pos hc] at h
    refine fhW.sub (lv' := [(0, .ref 3)]) [0] rfl ?_
    exact L_X8_takeName_47 hE hΓ hd σ _ h hk
  · rw [if_neg hc] at h
    refine fhW.blk fhPF fhLL hΓ [(.aload_n 0, 0), (.iconst 1, 1), (.aload_n 0, 0), (.getfield 78, 0), (.bipush 6, 6), (.iadd, 0)] (pc' := 44) (lv' := [(0, .ref 3)]) (st' := [.int ((σ.1 3 8) + (6 : Int32)), .int (1 : Int32), .ref 3]) (σ' := σ) (by decide +kernel) rfl rfl rfl ?_
    refine fhW.callv hΓ mvX8_fail ml_8_81 (t := 3) (ci := 8) (av := [.int (1 : Int32), .int ((σ.1 3 8) + (6 : Int32))]) (rest := []) (r := none) (σ' := (f_X8_fail (1 : Int32) ((σ.1 3 8) + (6 : Int32)) σ)) (T_X8_fail (E := fhEn Γ) (d := fhD Γ - 1) hE (by omega) (1 : Int32) ((σ.1 3 8) + (6 : Int32)) σ) (by omega) (by decide +kernel) rfl rfl rfl (Nat.le_of_ble_eq_true rfl) rfl ?_
    show fhW fhYF Γ 47 [(0, .ref 3)] [] (f_X8_fail (1 : Int32) ((σ.1 3 8) + (6 : Int32)) σ)
    obtain ⟨q2, e2, h⟩ := fhlet_elim h
    rw [← e2]
    refine fhW.sub (lv' := [(0, .ref 3)]) [0] rfl ?_
    exact L_X8_takeName_47 hE hΓ hd q2 _ h hk
set_option maxRecDepth 100000 in
set_option maxHeartbeats 4000000 in
theorem L_X8_takeName_17 {Γ : fhX} (hE : fhEok fhYF (fhEn Γ)) (hΓ : fhOk fhYF 8 cX8_takeName 2 (some .int) Γ) (hd : 2 ≤ fhD Γ)   (σ : fhM) (o : Int32 × fhM) (h : f_X8_takeName_17 σ = o) (hk : (fun o => fhRet Γ (some (.int o.1)) o.2) o) : fhW fhYF Γ 17 [(0, .ref 3)] [] σ := by
  unfold f_X8_takeName_17 at h
  refine fhW.blk fhPF fhLL hΓ [(.aload_n 0, 0)] (pc' := 18) (lv' := [(0, .ref 3)]) (st' := [.ref 3]) (σ' := σ) (by decide +kernel) rfl rfl rfl ?_
  refine fhW.callv hΓ mvX8_failHere ml_8_97 (t := 3) (ci := 8) (av := []) (rest := []) (r := none) (σ' := (f_X8_failHere σ)) (T_X8_failHere (E := fhEn Γ) (d := fhD Γ - 1) hE (by omega) σ) (by omega) (by decide +kernel) rfl rfl rfl (Nat.le_of_ble_eq_true rfl) rfl ?_
  show fhW fhYF Γ 21 [(0, .ref 3)] [] (f_X8_failHere σ)
  obtain ⟨q1, e3, h⟩ := fhlet_elim h
  rw [← e3]
  refine fhW.sub (lv' := [(0, .ref 3)]) [0] rfl ?_
  exact L_X8_takeName_21 hE hΓ hd q1 _ h hk
set_option maxRecDepth 100000 in
set_option maxHeartbeats 4000000 in
theorem L_X8_takeName_E {Γ : fhX} (hE : fhEok fhYF (fhEn Γ)) (hΓ : fhOk fhYF 8 cX8_takeName 2 (some .int) Γ) (hd : 2 ≤ fhD Γ)   (σ : fhM) (o : Int32 × fhM) (h : f_X8_takeName σ = o) (hk : (fun o => fhRet Γ (some (.int o.1)) o.2) o) : fhW fhYF Γ 0 [(0, .ref 3)] [] σ := by
  unfold f_X8_takeName at h
  refine fhW.blk fhPF fhLL hΓ [(.aload_n 0, 0), (.getfield 75, 0), (.iconst 1, 1)] (pc' := 5) (lv' := [(0, .ref 3)]) (st' := [.int (1 : Int32), .int (σ.1 3 4)]) (σ' := σ) (by decide +kernel) rfl rfl rfl ?_
  refine fhW.i_ne hΓ (tgt := 17) (show fhbk _ _ (.if_icmp .ne (12)) _ = true by decide +kernel) (fun hc => ?_) (fun hc => ?_)
  · rw [if_neg hc] at h
    refine fhW.sub (lv' := [(0, .ref 3)]) [0] rfl ?_
    exact L_X8_takeName_17 hE hΓ hd σ _ h hk
  · rw [if_pos hc] at h
    refine fhW.blk fhPF fhLL hΓ [(.aload_n 0, 0), (.getfield 90, 0), (.bipush 26, 26)] (pc' := 14) (lv' := [(0, .ref 3)]) (st' := [.int (26 : Int32), .int (σ.1 3 7)]) (σ' := σ) (by decide +kernel) rfl rfl rfl ?_
    refine fhW.i_ge hΓ (tgt := 21) (show fhbk _ _ (.if_icmp .ge (7)) _ = true by decide +kernel) (fun hc => ?_) (fun hc => ?_)
    · rw [if_pos hc] at h
      refine fhW.sub (lv' := [(0, .ref 3)]) [0] rfl ?_
      exact L_X8_takeName_21 hE hΓ hd σ _ h hk
    · rw [if_neg hc] at h
      refine fhW.sub (lv' := [(0, .ref 3)]) [0] rfl ?_
      exact L_X8_takeName_17 hE hΓ hd σ _ h hk
set_option maxRecDepth 100000 in
theorem T_X8_takeName {E : fhE} {d : Nat} (hE : fhEok fhYF E) (hd : 2 ≤ d)   (σ : fhM) : fhC fhYF E d miX8_takeName [.ref 3] σ (some (.int (f_X8_takeName σ).1)) (f_X8_takeName σ).2 := by
  refine fhC.of (y := yX8_takeName) (cc := cX8_takeName) (nL := 2) (ret := (some .int)) 8 rfl (by decide +kernel) (Nat.le_of_ble_eq_true rfl) ?_
  intro Γ hΓ hR hD hEn
  subst hD; subst hEn
  exact L_X8_takeName_E hE hΓ hd   σ _ rfl hR
set_option maxRecDepth 100000 in
set_option maxHeartbeats 4000000 in
theorem L_X7_guestNamed_2 {Γ : fhX} (hE : fhEok fhYF (fhEn Γ)) (hΓ : fhOk fhYF 7 cX7_guestNamed 3 (some .int) Γ) (hd : 1 ≤ fhD Γ) (v0 : Nat) (v1 : Int32) (v2 : Int32) (hv0 : fhiP v0 = true) (σ : fhM) (o : (Int32) ⊕ (Int32)) (h : f_X7_guestNamed_2 v0 v1 v2 σ = some o) (hk : (fhK (fun x => fhW fhYF Γ 2 [(0, .ref v0), (1, .int v1), (2, .int x)] [] σ) (fun o => fhRet Γ (some (.int o)) σ)) o) : fhW fhYF Γ 2 [(0, .ref v0), (1, .int v1), (2, .int v2)] [] σ := by
  unfold f_X7_guestNamed_2 at h
  refine fhW.blk fhPF fhLL hΓ [(.iload_n 2, 0), (.aload_n 0, 0), (.getfield 69, 0)] (pc' := 7) (lv' := [(0, .ref v0), (1, .int v1), (2, .int v2)]) (st' := [.int (σ.1 v0 10), .int v2]) (σ' := σ) (by decide +kernel) rfl rfl (by rcases fhiP_or hv0 with rfl | rfl <;> rfl) ?_
  refine fhW.i_ge hΓ (tgt := 30) (show fhbk _ _ (.if_icmp .ge (23)) _ = true by decide +kernel) (fun hc => ?_) (fun hc => ?_)
  · rw [if_pos hc] at h
    refine fhW.blk fhPF fhLL hΓ [(.iconst (-1), -1)] (pc' := 31) (lv' := [(0, .ref v0), (1, .int v1), (2, .int v2)]) (st' := [.int (-1 : Int32)]) (σ' := σ) (by decide +kernel) rfl rfl rfl ?_
    have e9 := Option.some.inj h
    subst e9
    exact fhW.iret hΓ (by decide +kernel) hk
  · rw [if_neg hc] at h
    refine fhW.blk fhPF fhLL hΓ [(.aload_n 0, 0), (.getfield 33, 0), (.iload_n 2, 0)] (pc' := 15) (lv' := [(0, .ref v0), (1, .int v1), (2, .int v2)]) (st' := [.int v2, .ref (v0 + 10)]) (σ' := σ) (by decide +kernel) rfl rfl (by rcases fhiP_or hv0 with rfl | rfl <;> rfl) ?_
    refine fhW.callv hΓ mvX2_get ml_7_156 (t := (v0 + 10)) (ci := 2) (av := [.int v2]) (rest := []) (r := (some (.int (fcG σ (v0 + 10) v2)))) (σ' := σ) (T_X2_get (E := fhEn Γ) (d := fhD Γ - 1) hE (by omega) (v0 + 10) v2 (fhiP_ind (p := fun q => fhiC (q + 10) = true) hv0 rfl rfl) σ) (by omega) (by decide +kernel) rfl (fhiC_g (fhiP_ind (p := fun q => fhiC (q + 10) = true) hv0 rfl rfl)) rfl (Nat.le_of_ble_eq_true rfl) rfl ?_
    show fhW fhYF Γ 18 [(0, .ref v0), (1, .int v1), (2, .int v2)] [.int (fcG σ (v0 + 10) v2)] σ
    refine fhW.blk fhPF fhLL hΓ [(.iload_n 1, 0)] (pc' := 19) (lv' := [(0, .ref v0), (1, .int v1), (2, .int v2)]) (st' := [.int v1, .int (fcG σ (v0 + 10) v2)]) (σ' := σ) (by decide +kernel) rfl rfl rfl ?_
    refine fhW.i_ne hΓ (tgt := 24) (show fhbk _ _ (.if_icmp .ne (5)) _ = true by decide +kernel) (fun hc => ?_) (fun hc => ?_)
    · rw [if_neg hc] at h
      refine fhW.blk fhPF fhLL hΓ [(.iinc 2 1, 1)] (pc' := 27) (lv' := [(2, .int (v2 + (1 : Int32))), (0, .ref v0), (1, .int v1)]) (st' := []) (σ' := σ) (by decide +kernel) rfl rfl rfl ?_
      refine fhW.goto hΓ (off := (-25)) (tgt := 2) (by decide +kernel) ?_
      refine fhW.sub (lv' := [(0, .ref v0), (1, .int v1), (2, .int (v2 + (1 : Int32)))]) [1, 2, 0] rfl ?_
      have e9 := Option.some.inj h
      subst e9
      exact hk
    · rw [if_pos hc] at h
      refine fhW.blk fhPF fhLL hΓ [(.iload_n 2, 0)] (pc' := 23) (lv' := [(0, .ref v0), (1, .int v1), (2, .int v2)]) (st' := [.int v2]) (σ' := σ) (by decide +kernel) rfl rfl rfl ?_
      have e9 := Option.some.inj h
      subst e9
      exact fhW.iret hΓ (by decide +kernel) hk
set_option maxRecDepth 100000 in
set_option maxHeartbeats 4000000 in
theorem L_X7_guestNamed_E {Γ : fhX} (hE : fhEok fhYF (fhEn Γ)) (hΓ : fhOk fhYF 7 cX7_guestNamed 3 (some .int) Γ) (hd : 1 ≤ fhD Γ) (v0 : Nat) (v1 : Int32) (hv0 : fhiP v0 = true) (σ : fhM) (o : Int32) (h : f_X7_guestNamed v0 v1 σ = some o) (hk : (fun o => fhRet Γ (some (.int o)) σ) o) : fhW fhYF Γ 0 [(0, .ref v0), (1, .int v1)] [] σ := by
  unfold f_X7_guestNamed at h
  refine fhW.blk fhPF fhLL hΓ [(.iconst 0, 0), (.istore_n 2, 0)] (pc' := 2) (lv' := [(2, .int (0 : Int32)), (0, .ref v0), (1, .int v1)]) (st' := []) (σ' := σ) (by decide +kernel) rfl rfl rfl ?_
  refine fhW.sub (lv' := [(0, .ref v0), (1, .int v1), (2, .int (0 : Int32))]) [1, 2, 0] rfl ?_
  exact fhlp_ok (W := (fun x => fhW fhYF Γ 2 [(0, .ref v0), (1, .int v1), (2, .int x)] [] σ)) (B := (fun o => fhRet Γ (some (.int o)) σ)) (fun x o h hk => L_X7_guestNamed_2 hE hΓ hd v0 v1 x hv0 σ o h hk) (0 : Int32) _ h hk
set_option maxRecDepth 100000 in
theorem T_X7_guestNamed {E : fhE} {d : Nat} (hE : fhEok fhYF E) (hd : 1 ≤ d) (v0 : Nat) (v1 : Int32) (hv0 : fhiP v0 = true) (σ : fhM) {o : Int32} (h : f_X7_guestNamed v0 v1 σ = some o) : fhC fhYF E d miX7_guestNamed [.ref v0, .int v1] σ (some (.int o)) σ := by
  refine fhC.of (y := yX7_guestNamed) (cc := cX7_guestNamed) (nL := 3) (ret := (some .int)) 7 rfl (by decide +kernel) (Nat.le_of_ble_eq_true rfl) ?_
  intro Γ hΓ hR hD hEn
  subst hD; subst hEn
  exact L_X7_guestNamed_E hE hΓ hd v0 v1 hv0 σ _ h hR
set_option maxRecDepth 100000 in
set_option maxHeartbeats 4000000 in
theorem L_X8_isWord_E {Γ : fhX} (hE : fhEok fhYF (fhEn Γ)) (hΓ : fhOk fhYF 8 cX8_isWord 2 (some .boolean) Γ) (hd : 0 ≤ fhD Γ) (v1 : Int32)  (σ : fhM) (o : Bool) (h : f_X8_isWord v1 σ = o) (hk : (fun o => fhRet Γ (some (.int (fhb o))) σ) o) : fhW fhYF Γ 0 [(0, .ref 3), (1, .int v1)] [] σ := by
  unfold f_X8_isWord at h
  refine fhW.blk fhPF fhLL hΓ [(.aload_n 0, 0), (.getfield 75, 0), (.iconst 1, 1)] (pc' := 5) (lv' := [(0, .ref 3), (1, .int v1)]) (st' := [.int (1 : Int32), .int (σ.1 3 4)]) (σ' := σ) (by decide +kernel) rfl rfl rfl ?_
  refine fhW.i_ne hΓ (tgt := 20) (show fhbk _ _ (.if_icmp .ne (15)) _ = true by decide +kernel) (fun hc => ?_) (fun hc => ?_)
  · rw [if_neg hc] at h
    refine fhW.blk fhPF fhLL hΓ [(.iconst 0, 0)] (pc' := 21) (lv' := [(0, .ref 3), (1, .int v1)]) (st' := [.int (0 : Int32)]) (σ' := σ) (by decide +kernel) rfl rfl rfl ?_
    subst h
    exact fhW.zret (v := false) hΓ (by decide +kernel) hk
  · rw [if_pos hc] at h
    refine fhW.blk fhPF fhLL hΓ [(.aload_n 0, 0), (.getfield 90, 0), (.iload_n 1, 0)] (pc' := 13) (lv' := [(0, .ref 3), (1, .int v1)]) (st' := [.int v1, .int (σ.1 3 7)]) (σ' := σ) (by decide +kernel) rfl rfl rfl ?_
    refine fhW.i_ne hΓ (tgt := 20) (show fhbk _ _ (.if_icmp .ne (7)) _ = true by decide +kernel) (fun hc => ?_) (fun hc => ?_)
    · rw [if_neg hc] at h
      refine fhW.blk fhPF fhLL hΓ [(.iconst 0, 0)] (pc' := 21) (lv' := [(0, .ref 3), (1, .int v1)]) (st' := [.int (0 : Int32)]) (σ' := σ) (by decide +kernel) rfl rfl rfl ?_
      subst h
      exact fhW.zret (v := false) hΓ (by decide +kernel) hk
    · rw [if_pos hc] at h
      refine fhW.blk fhPF fhLL hΓ [(.iconst 1, 1)] (pc' := 17) (lv' := [(0, .ref 3), (1, .int v1)]) (st' := [.int (1 : Int32)]) (σ' := σ) (by decide +kernel) rfl rfl rfl ?_
      refine fhW.goto hΓ (off := 4) (tgt := 21) (by decide +kernel) ?_
      subst h
      exact fhW.zret (v := true) hΓ (by decide +kernel) hk
set_option maxRecDepth 100000 in
theorem T_X8_isWord {E : fhE} {d : Nat} (hE : fhEok fhYF E) (hd : 0 ≤ d) (v1 : Int32)  (σ : fhM) : fhC fhYF E d miX8_isWord [.ref 3, .int v1] σ (some (.int (fhb (f_X8_isWord v1 σ)))) σ := by
  refine fhC.of (y := yX8_isWord) (cc := cX8_isWord) (nL := 2) (ret := (some .boolean)) 8 rfl (by decide +kernel) (Nat.le_of_ble_eq_true rfl) ?_
  intro Γ hΓ hR hD hEn
  subst hD; subst hEn
  exact L_X8_isWord_E hE hΓ hd v1  σ _ rfl hR

