set_option maxRecDepth 100000 in
set_option maxHeartbeats 4000000 in
theorem L_X12_isIn_E {Γ : fhX} (hΓ : fhOk fhYM 12 cX12_isIn 6 (some .boolean) Γ) (hd : 0 ≤ fhD Γ) (v0 : Int64) (v2 : Int64) (v4 : Int64)  (σ : fhM) (o : Bool) (h : f_X12_isIn v0 v2 v4 σ = o) (hk : (fun o => fhRet Γ (some (.int (fhb o))) σ) o) : fhW fhYM Γ 0 [(0, .long v0), (2, .long v2), (4, .long v4)] [] σ := by
  unfold f_X12_isIn at h
  refine fhW.blk fhPM fhLL hΓ [(.lload_n 0, 0), (.lload_n 2, 0), (.lcmp, 0)] (pc' := 3) (lv' := [(0, .long v0), (2, .long v2), (4, .long v4)]) (st' := [.int (lg_cmp v0 v2)]) (σ' := σ) (by decide +kernel) rfl rfl rfl ?_
  refine fhW.z_lt hΓ (tgt := 17) (show fhbk _ _ (.ifCond .lt (14)) _ = true by decide +kernel) (fun hc => ?_) (fun hc => ?_)
  · rw [if_pos hc] at h
    refine fhW.blk fhPM fhLL hΓ [(.iconst 0, 0)] (pc' := 18) (lv' := [(0, .long v0), (2, .long v2), (4, .long v4)]) (st' := [.int (0 : Int32)]) (σ' := σ) (by decide +kernel) rfl rfl rfl ?_
    subst h
    exact fhW.zret (v := false) hΓ (by decide +kernel) hk
  · rw [if_neg hc] at h
    refine fhW.blk fhPM fhLL hΓ [(.lload_n 0, 0), (.lload 4, 0), (.lcmp, 0)] (pc' := 10) (lv' := [(0, .long v0), (2, .long v2), (4, .long v4)]) (st' := [.int (lg_cmp v0 v4)]) (σ' := σ) (by decide +kernel) rfl rfl rfl ?_
    refine fhW.z_gt hΓ (tgt := 17) (show fhbk _ _ (.ifCond .gt (7)) _ = true by decide +kernel) (fun hc => ?_) (fun hc => ?_)
    · rw [if_pos hc] at h
      refine fhW.blk fhPM fhLL hΓ [(.iconst 0, 0)] (pc' := 18) (lv' := [(0, .long v0), (2, .long v2), (4, .long v4)]) (st' := [.int (0 : Int32)]) (σ' := σ) (by decide +kernel) rfl rfl rfl ?_
      subst h
      exact fhW.zret (v := false) hΓ (by decide +kernel) hk
    · rw [if_neg hc] at h
      refine fhW.blk fhPM fhLL hΓ [(.iconst 1, 1)] (pc' := 14) (lv' := [(0, .long v0), (2, .long v2), (4, .long v4)]) (st' := [.int (1 : Int32)]) (σ' := σ) (by decide +kernel) rfl rfl rfl ?_
      refine fhW.goto hΓ (off := 4) (tgt := 18) (by decide +kernel) ?_
      subst h
      exact fhW.zret (v := true) hΓ (by decide +kernel) hk
set_option maxRecDepth 100000 in
theorem T_X12_isIn {E : fhE} {d : Nat} (hd : 0 ≤ d) (v0 : Int64) (v2 : Int64) (v4 : Int64)  (σ : fhM) : fhC fhYM E d miX12_isIn [.long v0, .long v2, .long v4] σ (some (.int (fhb (f_X12_isIn v0 v2 v4 σ)))) σ := by
  refine fhC.of (y := yX12_isIn) (cc := cX12_isIn) (nL := 6) (ret := (some .boolean)) 12 rfl (by decide +kernel) (Nat.le_of_ble_eq_true rfl) ?_
  intro Γ hΓ hR hD hEn
  subst hD; subst hEn
  exact L_X12_isIn_E hΓ hd v0 v2 v4  σ _ rfl hR
set_option maxRecDepth 100000 in
set_option maxHeartbeats 4000000 in
theorem L_X12_isOne_E {Γ : fhX} (hΓ : fhOk fhYM 12 cX12_isOne 1 (some .boolean) Γ) (hd : 0 ≤ fhD Γ) (v0 : Int32)  (σ : fhM) (o : Bool) (h : f_X12_isOne v0 σ = o) (hk : (fun o => fhRet Γ (some (.int (fhb o))) σ) o) : fhW fhYM Γ 0 [(0, .int v0)] [] σ := by
  unfold f_X12_isOne at h
  refine fhW.blk fhPM fhLL hΓ [(.iload_n 0, 0)] (pc' := 1) (lv' := [(0, .int v0)]) (st' := [.int v0]) (σ' := σ) (by decide +kernel) rfl rfl rfl ?_
  refine fhW.z_eq hΓ (tgt := 16) (show fhbk _ _ (.ifCond .eq (15)) _ = true by decide +kernel) (fun hc => ?_) (fun hc => ?_)
  · rw [if_pos hc] at h
    refine fhW.blk fhPM fhLL hΓ [(.iconst 0, 0)] (pc' := 17) (lv' := [(0, .int v0)]) (st' := [.int (0 : Int32)]) (σ' := σ) (by decide +kernel) rfl rfl rfl ?_
    subst h
    exact fhW.zret (v := false) hΓ (by decide +kernel) hk
  · rw [if_neg hc] at h
    refine fhW.blk fhPM fhLL hΓ [(.iload_n 0, 0), (.iload_n 0, 0), (.iconst 1, 1), (.isub, 0), (.iand, 0)] (pc' := 9) (lv' := [(0, .int v0)]) (st' := [.int (v0 &&& (v0 - (1 : Int32)))]) (σ' := σ) (by decide +kernel) rfl rfl rfl ?_
    refine fhW.z_ne hΓ (tgt := 16) (show fhbk _ _ (.ifCond .ne (7)) _ = true by decide +kernel) (fun hc => ?_) (fun hc => ?_)
    · rw [if_neg hc] at h
      refine fhW.blk fhPM fhLL hΓ [(.iconst 0, 0)] (pc' := 17) (lv' := [(0, .int v0)]) (st' := [.int (0 : Int32)]) (σ' := σ) (by decide +kernel) rfl rfl rfl ?_
      subst h
      exact fhW.zret (v := false) hΓ (by decide +kernel) hk
    · rw [if_pos hc] at h
      refine fhW.blk fhPM fhLL hΓ [(.iconst 1, 1)] (pc' := 13) (lv' := [(0, .int v0)]) (st' := [.int (1 : Int32)]) (σ' := σ) (by decide +kernel) rfl rfl rfl ?_
      refine fhW.goto hΓ (off := 4) (tgt := 17) (by decide +kernel) ?_
      subst h
      exact fhW.zret (v := true) hΓ (by decide +kernel) hk
set_option maxRecDepth 100000 in
theorem T_X12_isOne {E : fhE} {d : Nat} (hd : 0 ≤ d) (v0 : Int32)  (σ : fhM) : fhC fhYM E d miX12_isOne [.int v0] σ (some (.int (fhb (f_X12_isOne v0 σ)))) σ := by
  refine fhC.of (y := yX12_isOne) (cc := cX12_isOne) (nL := 1) (ret := (some .boolean)) 12 rfl (by decide +kernel) (Nat.le_of_ble_eq_true rfl) ?_
  intro Γ hΓ hR hD hEn
  subst hD; subst hEn
  exact L_X12_isOne_E hΓ hd v0  σ _ rfl hR
set_option maxRecDepth 100000 in
set_option maxHeartbeats 4000000 in
theorem L_X12_feed_81 {Γ : fhX} (hΓ : fhOk fhYM 12 cX12_feed 8 (some .int) Γ) (hd : 0 ≤ fhD Γ) (v1 : Int32) (v2 : Int32) (v3 : Int32) (v4 : Int32) (v5 : Int32) (v6 : Int32) (s0 : Int32)  (σ : fhM) (o : (Int32 × fhM) ⊕ (Int32 × fhM)) (h : f_X12_feed_81 v1 v2 v3 v4 v5 v6 s0 σ = some o) (hk : (fhK (fun x => fhW fhYM Γ 28 [(0, .ref 0), (1, .int v1), (2, .int v2), (3, .int v3), (4, .int v4), (5, .int v5), (6, .int x.1)] [] x.2) (fun o => fhRet Γ (some (.int o.1)) o.2)) o) : fhW fhYM Γ 81 [(0, .ref 0), (1, .int v1), (2, .int v2), (3, .int v3), (4, .int v4), (5, .int v5), (6, .int v6)] [.int s0] σ := by
  unfold f_X12_feed_81 at h
  obtain ⟨hg1, h⟩ := fhif h
  refine fhW.blk fhPM fhLL hΓ [(.istore 7, 0), (.aload_n 0, 0), (.getfield 7, 0), (.aload_n 0, 0), (.getfield 259, 0), (.iload 7, 0), (.bipush 8, 8), (.iconst 3, 3), (.iload 6, 0), (.iconst 4, 4), (.irem, 0), (.isub, 0), (.imul, 0), (.ishr, 0), (.sipush 255, 255), (.iand, 0), (.iastore, 0), (.aload_n 0, 0), (.dup, 0), (.getfield 259, 0), (.iconst 1, 1), (.iadd, 0), (.putfield 259, 0), (.iinc 6 1, 1)] (pc' := 121) (lv' := [(6, .int (v6 + (1 : Int32))), (7, .int s0), (0, .ref 0), (1, .int v1), (2, .int v2), (3, .int v3), (4, .int v4), (5, .int v5)]) (st' := []) (σ' := (fhI (fhI σ 1 (fhix (σ.1 0 1)) ((s0 >>> (((8 : Int32) * ((3 : Int32) - (fhrem v6 (4 : Int32)))) &&& 31)) &&& (255 : Int32))) 0 1 ((σ.1 0 1) + (1 : Int32)))) (by decide +kernel) rfl rfl hg1 ?_
  refine fhW.goto hΓ (off := (-93)) (tgt := 28) (by decide +kernel) ?_
  refine fhW.sub (lv' := [(0, .ref 0), (1, .int v1), (2, .int v2), (3, .int v3), (4, .int v4), (5, .int v5), (6, .int (v6 + (1 : Int32)))]) [2, 3, 4, 5, 6, 7, 0] rfl ?_
  have e9 := Option.some.inj h
  subst e9
  exact hk
set_option maxRecDepth 100000 in
set_option maxHeartbeats 4000000 in
theorem L_X12_feed_28 {Γ : fhX} (hΓ : fhOk fhYM 12 cX12_feed 8 (some .int) Γ) (hd : 0 ≤ fhD Γ) (v1 : Int32) (v2 : Int32) (v3 : Int32) (v4 : Int32) (v5 : Int32) (v6 : Int32)  (σ : fhM) (o : (Int32 × fhM) ⊕ (Int32 × fhM)) (h : f_X12_feed_28 v1 v2 v3 v4 v5 v6 σ = some o) (hk : (fhK (fun x => fhW fhYM Γ 28 [(0, .ref 0), (1, .int v1), (2, .int v2), (3, .int v3), (4, .int v4), (5, .int v5), (6, .int x.1)] [] x.2) (fun o => fhRet Γ (some (.int o.1)) o.2)) o) : fhW fhYM Γ 28 [(0, .ref 0), (1, .int v1), (2, .int v2), (3, .int v3), (4, .int v4), (5, .int v5), (6, .int v6)] [] σ := by
  unfold f_X12_feed_28 at h
  refine fhW.blk fhPM fhLL hΓ [(.iload 6, 0), (.bipush 20, 20)] (pc' := 32) (lv' := [(0, .ref 0), (1, .int v1), (2, .int v2), (3, .int v3), (4, .int v4), (5, .int v5), (6, .int v6)]) (st' := [.int (20 : Int32), .int v6]) (σ' := σ) (by decide +kernel) rfl rfl rfl ?_
  refine fhW.i_ge hΓ (tgt := 124) (show fhbk _ _ (.if_icmp .ge (92)) _ = true by decide +kernel) (fun hc => ?_) (fun hc => ?_)
  · rw [if_pos hc] at h
    refine fhW.blk fhPM fhLL hΓ [(.aload_n 0, 0), (.getfield 259, 0)] (pc' := 128) (lv' := [(0, .ref 0), (1, .int v1), (2, .int v2), (3, .int v3), (4, .int v4), (5, .int v5), (6, .int v6)]) (st' := [.int (σ.1 0 1)]) (σ' := σ) (by decide +kernel) rfl rfl rfl ?_
    have e9 := Option.some.inj h
    subst e9
    exact fhW.iret hΓ (by decide +kernel) hk
  · rw [if_neg hc] at h
    refine fhW.blk fhPM fhLL hΓ [(.iload 6, 0), (.iconst 4, 4)] (pc' := 38) (lv' := [(0, .ref 0), (1, .int v1), (2, .int v2), (3, .int v3), (4, .int v4), (5, .int v5), (6, .int v6)]) (st' := [.int (4 : Int32), .int v6]) (σ' := σ) (by decide +kernel) rfl rfl rfl ?_
    refine fhW.i_ge hΓ (tgt := 45) (show fhbk _ _ (.if_icmp .ge (7)) _ = true by decide +kernel) (fun hc => ?_) (fun hc => ?_)
    · simp only [if_pos hc] at h
      refine fhW.blk fhPM fhLL hΓ [(.iload 6, 0), (.bipush 8, 8)] (pc' := 49) (lv' := [(0, .ref 0), (1, .int v1), (2, .int v2), (3, .int v3), (4, .int v4), (5, .int v5), (6, .int v6)]) (st' := [.int (8 : Int32), .int v6]) (σ' := σ) (by decide +kernel) rfl rfl rfl ?_
      refine fhW.i_ge hΓ (tgt := 56) (show fhbk _ _ (.if_icmp .ge (7)) _ = true by decide +kernel) (fun hc => ?_) (fun hc => ?_)
      · simp only [if_pos hc] at h
        refine fhW.blk fhPM fhLL hΓ [(.iload 6, 0), (.bipush 12, 12)] (pc' := 60) (lv' := [(0, .ref 0), (1, .int v1), (2, .int v2), (3, .int v3), (4, .int v4), (5, .int v5), (6, .int v6)]) (st' := [.int (12 : Int32), .int v6]) (σ' := σ) (by decide +kernel) rfl rfl rfl ?_
        refine fhW.i_ge hΓ (tgt := 67) (show fhbk _ _ (.if_icmp .ge (7)) _ = true by decide +kernel) (fun hc => ?_) (fun hc => ?_)
        · simp only [if_pos hc] at h
          refine fhW.blk fhPM fhLL hΓ [(.iload 6, 0), (.bipush 16, 16)] (pc' := 71) (lv' := [(0, .ref 0), (1, .int v1), (2, .int v2), (3, .int v3), (4, .int v4), (5, .int v5), (6, .int v6)]) (st' := [.int (16 : Int32), .int v6]) (σ' := σ) (by decide +kernel) rfl rfl rfl ?_
          refine fhW.i_ge hΓ (tgt := 79) (show fhbk _ _ (.if_icmp .ge (8)) _ = true by decide +kernel) (fun hc => ?_) (fun hc => ?_)
          · simp only [if_pos hc] at h
            refine fhW.blk fhPM fhLL hΓ [(.iload 5, 0)] (pc' := 81) (lv' := [(0, .ref 0), (1, .int v1), (2, .int v2), (3, .int v3), (4, .int v4), (5, .int v5), (6, .int v6)]) (st' := [.int v5]) (σ' := σ) (by decide +kernel) rfl rfl rfl ?_
            refine fhW.sub (lv' := [(0, .ref 0), (1, .int v1), (2, .int v2), (3, .int v3), (4, .int v4), (5, .int v5), (6, .int v6)]) [0, 1, 2, 3, 4, 5, 6] rfl ?_
            exact L_X12_feed_81 hΓ hd v1 v2 v3 v4 v5 v6 v5 σ _ h hk
          · simp only [if_neg hc] at h
            refine fhW.blk fhPM fhLL hΓ [(.iload 4, 0)] (pc' := 76) (lv' := [(0, .ref 0), (1, .int v1), (2, .int v2), (3, .int v3), (4, .int v4), (5, .int v5), (6, .int v6)]) (st' := [.int v4]) (σ' := σ) (by decide +kernel) rfl rfl rfl ?_
            refine fhW.goto hΓ (off := 5) (tgt := 81) (by decide +kernel) ?_
            refine fhW.sub (lv' := [(0, .ref 0), (1, .int v1), (2, .int v2), (3, .int v3), (4, .int v4), (5, .int v5), (6, .int v6)]) [0, 1, 2, 3, 4, 5, 6] rfl ?_
            exact L_X12_feed_81 hΓ hd v1 v2 v3 v4 v5 v6 v4 σ _ h hk
        · simp only [if_neg hc] at h
          refine fhW.blk fhPM fhLL hΓ [(.iload_n 3, 0)] (pc' := 64) (lv' := [(0, .ref 0), (1, .int v1), (2, .int v2), (3, .int v3), (4, .int v4), (5, .int v5), (6, .int v6)]) (st' := [.int v3]) (σ' := σ) (by decide +kernel) rfl rfl rfl ?_
          refine fhW.goto hΓ (off := 17) (tgt := 81) (by decide +kernel) ?_
          refine fhW.sub (lv' := [(0, .ref 0), (1, .int v1), (2, .int v2), (3, .int v3), (4, .int v4), (5, .int v5), (6, .int v6)]) [0, 1, 2, 3, 4, 5, 6] rfl ?_
          exact L_X12_feed_81 hΓ hd v1 v2 v3 v4 v5 v6 v3 σ _ h hk
      · simp only [if_neg hc] at h
        refine fhW.blk fhPM fhLL hΓ [(.iload_n 2, 0)] (pc' := 53) (lv' := [(0, .ref 0), (1, .int v1), (2, .int v2), (3, .int v3), (4, .int v4), (5, .int v5), (6, .int v6)]) (st' := [.int v2]) (σ' := σ) (by decide +kernel) rfl rfl rfl ?_
        refine fhW.goto hΓ (off := 28) (tgt := 81) (by decide +kernel) ?_
        refine fhW.sub (lv' := [(0, .ref 0), (1, .int v1), (2, .int v2), (3, .int v3), (4, .int v4), (5, .int v5), (6, .int v6)]) [0, 1, 2, 3, 4, 5, 6] rfl ?_
        exact L_X12_feed_81 hΓ hd v1 v2 v3 v4 v5 v6 v2 σ _ h hk
    · simp only [if_neg hc] at h
      refine fhW.blk fhPM fhLL hΓ [(.iload_n 1, 0)] (pc' := 42) (lv' := [(0, .ref 0), (1, .int v1), (2, .int v2), (3, .int v3), (4, .int v4), (5, .int v5), (6, .int v6)]) (st' := [.int v1]) (σ' := σ) (by decide +kernel) rfl rfl rfl ?_
      refine fhW.goto hΓ (off := 39) (tgt := 81) (by decide +kernel) ?_
      refine fhW.sub (lv' := [(0, .ref 0), (1, .int v1), (2, .int v2), (3, .int v3), (4, .int v4), (5, .int v5), (6, .int v6)]) [0, 1, 2, 3, 4, 5, 6] rfl ?_
      exact L_X12_feed_81 hΓ hd v1 v2 v3 v4 v5 v6 v1 σ _ h hk
set_option maxRecDepth 100000 in
set_option maxHeartbeats 4000000 in
theorem L_X12_feed_E {Γ : fhX} (hΓ : fhOk fhYM 12 cX12_feed 8 (some .int) Γ) (hd : 0 ≤ fhD Γ) (v1 : Int32) (v2 : Int32) (v3 : Int32) (v4 : Int32) (v5 : Int32)  (σ : fhM) (o : Int32 × fhM) (h : f_X12_feed v1 v2 v3 v4 v5 σ = some o) (hk : (fun o => fhRet Γ (some (.int o.1)) o.2) o) : fhW fhYM Γ 0 [(0, .ref 0), (1, .int v1), (2, .int v2), (3, .int v3), (4, .int v4), (5, .int v5)] [] σ := by
  unfold f_X12_feed at h
  refine fhW.blk fhPM fhLL hΓ [(.aload_n 0, 0), (.getfield 259, 0), (.bipush 20, 20), (.iadd, 0), (.sipush 1600, 1600)] (pc' := 10) (lv' := [(0, .ref 0), (1, .int v1), (2, .int v2), (3, .int v3), (4, .int v4), (5, .int v5)]) (st' := [.int (1600 : Int32), .int ((σ.1 0 1) + (20 : Int32))]) (σ' := σ) (by decide +kernel) rfl rfl rfl ?_
  refine fhW.i_le hΓ (tgt := 25) (show fhbk _ _ (.if_icmp .le (15)) _ = true by decide +kernel) (fun hc => ?_) (fun hc => ?_)
  · rw [if_pos hc] at h
    refine fhW.blk fhPM fhLL hΓ [(.iconst 0, 0), (.istore 6, 0)] (pc' := 28) (lv' := [(6, .int (0 : Int32)), (0, .ref 0), (1, .int v1), (2, .int v2), (3, .int v3), (4, .int v4), (5, .int v5)]) (st' := []) (σ' := σ) (by decide +kernel) rfl rfl rfl ?_
    refine fhW.sub (lv' := [(0, .ref 0), (1, .int v1), (2, .int v2), (3, .int v3), (4, .int v4), (5, .int v5), (6, .int (0 : Int32))]) [1, 2, 3, 4, 5, 6, 0] rfl ?_
    exact fhlp_ok (W := (fun x => fhW fhYM Γ 28 [(0, .ref 0), (1, .int v1), (2, .int v2), (3, .int v3), (4, .int v4), (5, .int v5), (6, .int x.1)] [] x.2)) (B := (fun o => fhRet Γ (some (.int o.1)) o.2)) (fun x o h hk => L_X12_feed_28 hΓ hd v1 v2 v3 v4 v5 x.1 x.2 o h hk) ((0 : Int32), σ) _ h hk
  · rw [if_neg hc] at h
    refine fhW.blk fhPM fhLL hΓ [(.aload_n 0, 0), (.getfield 17, 0), (.iconst 0, 0), (.dup2, 0), (.iaload, 0), (.iconst 1, 1), (.iadd, 0), (.iastore, 0), (.iconst (-1), -1)] (pc' := 24) (lv' := [(0, .ref 0), (1, .int v1), (2, .int v2), (3, .int v3), (4, .int v4), (5, .int v5)]) (st' := [.int (-1 : Int32)]) (σ' := (fhI σ 2 0 ((σ.1 2 0) + (1 : Int32)))) (by decide +kernel) rfl rfl rfl ?_
    have e9 := Option.some.inj h
    subst e9
    exact fhW.iret hΓ (by decide +kernel) hk
set_option maxRecDepth 100000 in
theorem T_X12_feed {E : fhE} {d : Nat} (hd : 0 ≤ d) (v1 : Int32) (v2 : Int32) (v3 : Int32) (v4 : Int32) (v5 : Int32)  (σ : fhM) {o : Int32 × fhM} (h : f_X12_feed v1 v2 v3 v4 v5 σ = some o) : fhC fhYM E d miX12_feed [.ref 0, .int v1, .int v2, .int v3, .int v4, .int v5] σ (some (.int o.1)) o.2 := by
  refine fhC.of (y := yX12_feed) (cc := cX12_feed) (nL := 8) (ret := (some .int)) 12 rfl (by decide +kernel) (Nat.le_of_ble_eq_true rfl) ?_
  intro Γ hΓ hR hD hEn
  subst hD; subst hEn
  exact L_X12_feed_E hΓ hd v1 v2 v3 v4 v5  σ _ h hR
set_option maxRecDepth 100000 in
set_option maxHeartbeats 4000000 in
theorem L_X12_end_12 {Γ : fhX} (hΓ : fhOk fhYM 12 cX12_end 2 (some .boolean) Γ) (hd : 0 ≤ fhD Γ)   (σ : fhM) (o : Bool × fhM) (h : f_X12_end_12 σ = o) (hk : (fun o => fhRet Γ (some (.int (fhb o.1))) o.2) o) : fhW fhYM Γ 12 [(0, .ref 0)] [] σ := by
  unfold f_X12_end_12 at h
  refine fhW.blk fhPM fhLL hΓ [(.aload_n 0, 0), (.getfield 17, 0), (.iconst 0, 0), (.dup2, 0), (.iaload, 0), (.iconst 1, 1), (.iadd, 0), (.iastore, 0), (.iconst 0, 0)] (pc' := 23) (lv' := [(0, .ref 0)]) (st' := [.int (0 : Int32)]) (σ' := (fhI σ 2 0 ((σ.1 2 0) + (1 : Int32)))) (by decide +kernel) rfl rfl rfl ?_
  subst h
  exact fhW.zret (v := false) hΓ (by decide +kernel) hk
set_option maxRecDepth 100000 in
set_option maxHeartbeats 4000000 in
theorem L_X12_end_E {Γ : fhX} (hΓ : fhOk fhYM 12 cX12_end 2 (some .boolean) Γ) (hd : 0 ≤ fhD Γ) (v1 : Int32)  (σ : fhM) (o : Bool × fhM) (h : f_X12_end v1 σ = o) (hk : (fun o => fhRet Γ (some (.int (fhb o.1))) o.2) o) : fhW fhYM Γ 0 [(0, .ref 0), (1, .int v1)] [] σ := by
  unfold f_X12_end at h
  refine fhW.blk fhPM fhLL hΓ [(.iload_n 1, 0)] (pc' := 1) (lv' := [(0, .ref 0), (1, .int v1)]) (st' := [.int v1]) (σ' := σ) (by decide +kernel) rfl rfl rfl ?_
  refine fhW.z_lt hΓ (tgt := 12) (show fhbk _ _ (.ifCond .lt (11)) _ = true by decide +kernel) (fun hc => ?_) (fun hc => ?_)
  · rw [if_pos hc] at h
    refine fhW.sub (lv' := [(0, .ref 0)]) [0] rfl ?_
    exact L_X12_end_12 hΓ hd σ _ h hk
  · rw [if_neg hc] at h
    refine fhW.blk fhPM fhLL hΓ [(.iload_n 1, 0), (.aload_n 0, 0), (.getfield 259, 0)] (pc' := 9) (lv' := [(0, .ref 0), (1, .int v1)]) (st' := [.int (σ.1 0 1), .int v1]) (σ' := σ) (by decide +kernel) rfl rfl rfl ?_
    refine fhW.i_le hΓ (tgt := 24) (show fhbk _ _ (.if_icmp .le (15)) _ = true by decide +kernel) (fun hc => ?_) (fun hc => ?_)
    · rw [if_pos hc] at h
      refine fhW.blk fhPM fhLL hΓ [(.aload_n 0, 0), (.iload_n 1, 0), (.putfield 259, 0), (.iconst 1, 1)] (pc' := 30) (lv' := [(0, .ref 0), (1, .int v1)]) (st' := [.int (1 : Int32)]) (σ' := (fhI σ 0 1 v1)) (by decide +kernel) rfl rfl rfl ?_
      subst h
      exact fhW.zret (v := true) hΓ (by decide +kernel) hk
    · rw [if_neg hc] at h
      refine fhW.sub (lv' := [(0, .ref 0)]) [0] rfl ?_
      exact L_X12_end_12 hΓ hd σ _ h hk
set_option maxRecDepth 100000 in
theorem T_X12_end {E : fhE} {d : Nat} (hd : 0 ≤ d) (v1 : Int32)  (σ : fhM) : fhC fhYM E d miX12_end [.ref 0, .int v1] σ (some (.int (fhb (f_X12_end v1 σ).1))) (f_X12_end v1 σ).2 := by
  refine fhC.of (y := yX12_end) (cc := cX12_end) (nL := 2) (ret := (some .boolean)) 12 rfl (by decide +kernel) (Nat.le_of_ble_eq_true rfl) ?_
  intro Γ hΓ hR hD hEn
  subst hD; subst hEn
  exact L_X12_end_E hΓ hd v1  σ _ rfl hR
set_option maxRecDepth 100000 in
set_option maxHeartbeats 4000000 in
theorem L_X12_fail_E {Γ : fhX} (hΓ : fhOk fhYM 12 cX12_fail 3 none Γ) (hd : 0 ≤ fhD Γ) (v1 : Int32) (v2 : Int32)  (σ : fhM) (o : fhM) (h : f_X12_fail v1 v2 σ = o) (hk : (fun o => fhRet Γ none o) o) : fhW fhYM Γ 0 [(0, .ref 0), (1, .int v1), (2, .int v2)] [] σ := by
  unfold f_X12_fail at h
  refine fhW.blk fhPM fhLL hΓ [(.aload_n 0, 0), (.getfield 262, 0)] (pc' := 4) (lv' := [(0, .ref 0), (1, .int v1), (2, .int v2)]) (st' := [.int (σ.1 0 5)]) (σ' := σ) (by decide +kernel) rfl rfl rfl ?_
  refine fhW.z_eq hΓ (tgt := 8) (show fhbk _ _ (.ifCond .eq (4)) _ = true by decide +kernel) (fun hc => ?_) (fun hc => ?_)
  · rw [if_pos hc] at h
    refine fhW.blk fhPM fhLL hΓ [(.aload_n 0, 0), (.iload_n 1, 0), (.putfield 262, 0), (.aload_n 0, 0), (.iload_n 2, 0), (.putfield 265, 0)] (pc' := 18) (lv' := [(0, .ref 0), (1, .int v1), (2, .int v2)]) (st' := []) (σ' := (fhI (fhI σ 0 5 v1) 0 6 v2)) (by decide +kernel) rfl rfl rfl ?_
    subst h
    exact fhW.vret hΓ (by decide +kernel) hk
  · rw [if_neg hc] at h
    subst h
    exact fhW.vret hΓ (by decide +kernel) hk
set_option maxRecDepth 100000 in
theorem T_X12_fail {E : fhE} {d : Nat} (hd : 0 ≤ d) (v1 : Int32) (v2 : Int32)  (σ : fhM) : fhC fhYM E d miX12_fail [.ref 0, .int v1, .int v2] σ none (f_X12_fail v1 v2 σ) := by
  refine fhC.of (y := yX12_fail) (cc := cX12_fail) (nL := 3) (ret := none) 12 rfl (by decide +kernel) (Nat.le_of_ble_eq_true rfl) ?_
  intro Γ hΓ hR hD hEn
  subst hD; subst hEn
  exact L_X12_fail_E hΓ hd v1 v2  σ _ rfl hR
set_option maxRecDepth 100000 in
set_option maxHeartbeats 4000000 in
theorem L_X12_isLetter_E {Γ : fhX} (hΓ : fhOk fhYM 12 cX12_isLetter 1 (some .boolean) Γ) (hd : 0 ≤ fhD Γ) (v0 : Int32)  (σ : fhM) (o : Bool) (h : f_X12_isLetter v0 σ = o) (hk : (fun o => fhRet Γ (some (.int (fhb o))) σ) o) : fhW fhYM Γ 0 [(0, .int v0)] [] σ := by
  unfold f_X12_isLetter at h
  refine fhW.blk fhPM fhLL hΓ [(.iload_n 0, 0), (.bipush 97, 97)] (pc' := 3) (lv' := [(0, .int v0)]) (st' := [.int (97 : Int32), .int v0]) (σ' := σ) (by decide +kernel) rfl rfl rfl ?_
  refine fhW.i_lt hΓ (tgt := 16) (show fhbk _ _ (.if_icmp .lt (13)) _ = true by decide +kernel) (fun hc => ?_) (fun hc => ?_)
  · rw [if_pos hc] at h
    refine fhW.blk fhPM fhLL hΓ [(.iconst 0, 0)] (pc' := 17) (lv' := [(0, .int v0)]) (st' := [.int (0 : Int32)]) (σ' := σ) (by decide +kernel) rfl rfl rfl ?_
    subst h
    exact fhW.zret (v := false) hΓ (by decide +kernel) hk
  · rw [if_neg hc] at h
    refine fhW.blk fhPM fhLL hΓ [(.iload_n 0, 0), (.bipush 122, 122)] (pc' := 9) (lv' := [(0, .int v0)]) (st' := [.int (122 : Int32), .int v0]) (σ' := σ) (by decide +kernel) rfl rfl rfl ?_
    refine fhW.i_gt hΓ (tgt := 16) (show fhbk _ _ (.if_icmp .gt (7)) _ = true by decide +kernel) (fun hc => ?_) (fun hc => ?_)
    · rw [if_pos hc] at h
      refine fhW.blk fhPM fhLL hΓ [(.iconst 0, 0)] (pc' := 17) (lv' := [(0, .int v0)]) (st' := [.int (0 : Int32)]) (σ' := σ) (by decide +kernel) rfl rfl rfl ?_
      subst h
      exact fhW.zret (v := false) hΓ (by decide +kernel) hk
    · rw [if_neg hc] at h
      refine fhW.blk fhPM fhLL hΓ [(.iconst 1, 1)] (pc' := 13) (lv' := [(0, .int v0)]) (st' := [.int (1 : Int32)]) (σ' := σ) (by decide +kernel) rfl rfl rfl ?_
      refine fhW.goto hΓ (off := 4) (tgt := 17) (by decide +kernel) ?_
      subst h
      exact fhW.zret (v := true) hΓ (by decide +kernel) hk
set_option maxRecDepth 100000 in
theorem T_X12_isLetter {E : fhE} {d : Nat} (hd : 0 ≤ d) (v0 : Int32)  (σ : fhM) : fhC fhYM E d miX12_isLetter [.int v0] σ (some (.int (fhb (f_X12_isLetter v0 σ)))) σ := by
  refine fhC.of (y := yX12_isLetter) (cc := cX12_isLetter) (nL := 1) (ret := (some .boolean)) 12 rfl (by decide +kernel) (Nat.le_of_ble_eq_true rfl) ?_
  intro Γ hΓ hR hD hEn
  subst hD; subst hEn
  exact L_X12_isLetter_E hΓ hd v0  σ _ rfl hR
set_option maxRecDepth 100000 in
set_option maxHeartbeats 4000000 in
theorem L_X12_isDigit_E {Γ : fhX} (hΓ : fhOk fhYM 12 cX12_isDigit 1 (some .boolean) Γ) (hd : 0 ≤ fhD Γ) (v0 : Int32)  (σ : fhM) (o : Bool) (h : f_X12_isDigit v0 σ = o) (hk : (fun o => fhRet Γ (some (.int (fhb o))) σ) o) : fhW fhYM Γ 0 [(0, .int v0)] [] σ := by
  unfold f_X12_isDigit at h
  refine fhW.blk fhPM fhLL hΓ [(.iload_n 0, 0), (.bipush 48, 48)] (pc' := 3) (lv' := [(0, .int v0)]) (st' := [.int (48 : Int32), .int v0]) (σ' := σ) (by decide +kernel) rfl rfl rfl ?_
  refine fhW.i_lt hΓ (tgt := 16) (show fhbk _ _ (.if_icmp .lt (13)) _ = true by decide +kernel) (fun hc => ?_) (fun hc => ?_)
  · rw [if_pos hc] at h
    refine fhW.blk fhPM fhLL hΓ [(.iconst 0, 0)] (pc' := 17) (lv' := [(0, .int v0)]) (st' := [.int (0 : Int32)]) (σ' := σ) (by decide +kernel) rfl rfl rfl ?_
    subst h
    exact fhW.zret (v := false) hΓ (by decide +kernel) hk
  · rw [if_neg hc] at h
    refine fhW.blk fhPM fhLL hΓ [(.iload_n 0, 0), (.bipush 57, 57)] (pc' := 9) (lv' := [(0, .int v0)]) (st' := [.int (57 : Int32), .int v0]) (σ' := σ) (by decide +kernel) rfl rfl rfl ?_
    refine fhW.i_gt hΓ (tgt := 16) (show fhbk _ _ (.if_icmp .gt (7)) _ = true by decide +kernel) (fun hc => ?_) (fun hc => ?_)
    · rw [if_pos hc] at h
      refine fhW.blk fhPM fhLL hΓ [(.iconst 0, 0)] (pc' := 17) (lv' := [(0, .int v0)]) (st' := [.int (0 : Int32)]) (σ' := σ) (by decide +kernel) rfl rfl rfl ?_
      subst h
      exact fhW.zret (v := false) hΓ (by decide +kernel) hk
    · rw [if_neg hc] at h
      refine fhW.blk fhPM fhLL hΓ [(.iconst 1, 1)] (pc' := 13) (lv' := [(0, .int v0)]) (st' := [.int (1 : Int32)]) (σ' := σ) (by decide +kernel) rfl rfl rfl ?_
      refine fhW.goto hΓ (off := 4) (tgt := 17) (by decide +kernel) ?_
      subst h
      exact fhW.zret (v := true) hΓ (by decide +kernel) hk
set_option maxRecDepth 100000 in
theorem T_X12_isDigit {E : fhE} {d : Nat} (hd : 0 ≤ d) (v0 : Int32)  (σ : fhM) : fhC fhYM E d miX12_isDigit [.int v0] σ (some (.int (fhb (f_X12_isDigit v0 σ)))) σ := by
  refine fhC.of (y := yX12_isDigit) (cc := cX12_isDigit) (nL := 1) (ret := (some .boolean)) 12 rfl (by decide +kernel) (Nat.le_of_ble_eq_true rfl) ?_
  intro Γ hΓ hR hD hEn
  subst hD; subst hEn
  exact L_X12_isDigit_E hΓ hd v0  σ _ rfl hR
set_option maxRecDepth 100000 in
set_option maxHeartbeats 4000000 in
theorem L_X12_look_52 {Γ : fhX} (hΓ : fhOk fhYM 12 cX12_look 1 (some .int) Γ) (hd : 0 ≤ fhD Γ)   (σ : fhM) (o : Int32 × fhM) (h : f_X12_look_52 σ = some o) (hk : (fun o => fhRet Γ (some (.int o.1)) o.2) o) : fhW fhYM Γ 52 [(0, .ref 0)] [] σ := by
  unfold f_X12_look_52 at h
  refine fhW.blk fhPM fhLL hΓ [(.aload_n 0, 0), (.getfield 268, 0), (.aload_n 0, 0), (.getfield 271, 0)] (pc' := 60) (lv' := [(0, .ref 0)]) (st' := [.int (σ.1 0 3), .int (σ.1 0 2)]) (σ' := σ) (by decide +kernel) rfl rfl rfl ?_
  refine fhW.i_ge hΓ (tgt := 75) (show fhbk _ _ (.if_icmp .ge (15)) _ = true by decide +kernel) (fun hc => ?_) (fun hc => ?_)
  · rw [if_pos hc] at h
    refine fhW.blk fhPM fhLL hΓ [(.iconst (-1), -1)] (pc' := 76) (lv' := [(0, .ref 0)]) (st' := [.int (-1 : Int32)]) (σ' := σ) (by decide +kernel) rfl rfl rfl ?_
    have e9 := Option.some.inj h
    subst e9
    exact fhW.iret hΓ (by decide +kernel) hk
  · rw [if_neg hc] at h
    obtain ⟨hg1, h⟩ := fhif h
    refine fhW.blk fhPM fhLL hΓ [(.aload_n 0, 0), (.getfield 7, 0), (.aload_n 0, 0), (.getfield 268, 0), (.iaload, 0)] (pc' := 72) (lv' := [(0, .ref 0)]) (st' := [.int (σ.1 1 (fhix (σ.1 0 2)))]) (σ' := σ) (by decide +kernel) rfl rfl hg1 ?_
    refine fhW.goto hΓ (off := 4) (tgt := 76) (by decide +kernel) ?_
    have e9 := Option.some.inj h
    subst e9
    exact fhW.iret hΓ (by decide +kernel) hk
set_option maxRecDepth 100000 in
set_option maxHeartbeats 4000000 in
theorem L_X12_look_39 {Γ : fhX} (hΓ : fhOk fhYM 12 cX12_look 1 (some .int) Γ) (hd : 0 ≤ fhD Γ)   (σ : fhM) (o : (fhM) ⊕ (Int32 × fhM)) (h : f_X12_look_39 σ = some o) (hk : (fhK (fun x => fhW fhYM Γ 0 [(0, .ref 0)] [] x) (fun o => fhRet Γ (some (.int o.1)) o.2)) o) : fhW fhYM Γ 39 [(0, .ref 0)] [] σ := by
  unfold f_X12_look_39 at h
  refine fhW.blk fhPM fhLL hΓ [(.aload_n 0, 0), (.dup, 0), (.getfield 268, 0), (.iconst 1, 1), (.iadd, 0), (.putfield 268, 0)] (pc' := 49) (lv' := [(0, .ref 0)]) (st' := []) (σ' := (fhI σ 0 2 ((σ.1 0 2) + (1 : Int32)))) (by decide +kernel) rfl rfl rfl ?_
  refine fhW.goto hΓ (off := (-49)) (tgt := 0) (by decide +kernel) ?_
  refine fhW.sub (lv' := [(0, .ref 0)]) [0] rfl ?_
  have e9 := Option.some.inj h
  subst e9
  exact hk
set_option maxRecDepth 100000 in
set_option maxHeartbeats 4000000 in
theorem L_X12_look_0 {Γ : fhX} (hΓ : fhOk fhYM 12 cX12_look 1 (some .int) Γ) (hd : 0 ≤ fhD Γ)   (σ : fhM) (o : (fhM) ⊕ (Int32 × fhM)) (h : f_X12_look_0 σ = some o) (hk : (fhK (fun x => fhW fhYM Γ 0 [(0, .ref 0)] [] x) (fun o => fhRet Γ (some (.int o.1)) o.2)) o) : fhW fhYM Γ 0 [(0, .ref 0)] [] σ := by
  unfold f_X12_look_0 at h
  refine fhW.blk fhPM fhLL hΓ [(.aload_n 0, 0), (.getfield 268, 0), (.aload_n 0, 0), (.getfield 271, 0)] (pc' := 8) (lv' := [(0, .ref 0)]) (st' := [.int (σ.1 0 3), .int (σ.1 0 2)]) (σ' := σ) (by decide +kernel) rfl rfl rfl ?_
  refine fhW.i_ge hΓ (tgt := 52) (show fhbk _ _ (.if_icmp .ge (44)) _ = true by decide +kernel) (fun hc => ?_) (fun hc => ?_)
  · rw [if_pos hc] at h
    refine fhW.sub (lv' := [(0, .ref 0)]) [0] rfl ?_
    obtain ⟨z1, hz, e1⟩ := Option.map_eq_some_iff.mp h
    clear h
    subst e1
    have h := hz
    have hk : (fun o => fhRet Γ (some (.int o.1)) o.2) z1 := hk
    exact L_X12_look_52 hΓ hd σ _ h hk
  · rw [if_neg hc] at h
    obtain ⟨hg2, h⟩ := fhif h
    refine fhW.blk fhPM fhLL hΓ [(.aload_n 0, 0), (.getfield 7, 0), (.aload_n 0, 0), (.getfield 268, 0), (.iaload, 0), (.bipush 10, 10)] (pc' := 22) (lv' := [(0, .ref 0)]) (st' := [.int (10 : Int32), .int (σ.1 1 (fhix (σ.1 0 2)))]) (σ' := σ) (by decide +kernel) rfl rfl hg2 ?_
    refine fhW.i_eq hΓ (tgt := 39) (show fhbk _ _ (.if_icmp .eq (17)) _ = true by decide +kernel) (fun hc => ?_) (fun hc => ?_)
    · rw [if_pos hc] at h
      refine fhW.sub (lv' := [(0, .ref 0)]) [0] rfl ?_
      exact L_X12_look_39 hΓ hd σ _ h hk
    · rw [if_neg hc] at h
      obtain ⟨hg3, h⟩ := fhif h
      refine fhW.blk fhPM fhLL hΓ [(.aload_n 0, 0), (.getfield 7, 0), (.aload_n 0, 0), (.getfield 268, 0), (.iaload, 0), (.bipush 32, 32)] (pc' := 36) (lv' := [(0, .ref 0)]) (st' := [.int (32 : Int32), .int (σ.1 1 (fhix (σ.1 0 2)))]) (σ' := σ) (by decide +kernel) rfl rfl hg3 ?_
      refine fhW.i_ne hΓ (tgt := 52) (show fhbk _ _ (.if_icmp .ne (16)) _ = true by decide +kernel) (fun hc => ?_) (fun hc => ?_)
      · rw [if_neg hc] at h
        refine fhW.sub (lv' := [(0, .ref 0)]) [0] rfl ?_
        obtain ⟨z2, hz, e2⟩ := Option.map_eq_some_iff.mp h
        clear h
        subst e2
        have h := hz
        have hk : (fun o => fhRet Γ (some (.int o.1)) o.2) z2 := hk
        exact L_X12_look_52 hΓ hd σ _ h hk
      · rw [if_pos hc] at h
        refine fhW.sub (lv' := [(0, .ref 0)]) [0] rfl ?_
        exact L_X12_look_39 hΓ hd σ _ h hk
set_option maxRecDepth 100000 in
set_option maxHeartbeats 4000000 in
theorem L_X12_look_E {Γ : fhX} (hΓ : fhOk fhYM 12 cX12_look 1 (some .int) Γ) (hd : 0 ≤ fhD Γ)   (σ : fhM) (o : Int32 × fhM) (h : f_X12_look σ = some o) (hk : (fun o => fhRet Γ (some (.int o.1)) o.2) o) : fhW fhYM Γ 0 [(0, .ref 0)] [] σ := by
  unfold f_X12_look at h
  refine fhW.sub (lv' := [(0, .ref 0)]) [0] rfl ?_
  exact fhlp_ok (W := (fun x => fhW fhYM Γ 0 [(0, .ref 0)] [] x)) (B := (fun o => fhRet Γ (some (.int o.1)) o.2)) (fun x o h hk => L_X12_look_0 hΓ hd x o h hk) σ _ h hk
set_option maxRecDepth 100000 in
theorem T_X12_look {E : fhE} {d : Nat} (hd : 0 ≤ d)   (σ : fhM) {o : Int32 × fhM} (h : f_X12_look σ = some o) : fhC fhYM E d miX12_look [.ref 0] σ (some (.int o.1)) o.2 := by
  refine fhC.of (y := yX12_look) (cc := cX12_look) (nL := 1) (ret := (some .int)) 12 rfl (by decide +kernel) (Nat.le_of_ble_eq_true rfl) ?_
  intro Γ hΓ hR hD hEn
  subst hD; subst hEn
  exact L_X12_look_E hΓ hd   σ _ h hR
set_option maxRecDepth 100000 in
set_option maxHeartbeats 4000000 in
theorem L_X12_isHere_76 {Γ : fhX} (hΓ : fhOk fhYM 12 cX12_isHere 4 (some .boolean) Γ) (hd : 1 ≤ fhD Γ) (v1 : Nat) (v3 : Int32) (hv1 : fhiW v1 = true) (σ : fhM) (o : (Int32) ⊕ (Bool × fhM)) (h : f_X12_isHere_76 v1 v3 σ = some o) (hk : (fhK (fun x => fhW fhYM Γ 76 [(0, .ref 0), (1, .ref v1), (3, .int x)] [] σ) (fun o => fhRet Γ (some (.int (fhb o.1))) o.2)) o) : fhW fhYM Γ 76 [(0, .ref 0), (1, .ref v1), (3, .int v3)] [] σ := by
  unfold f_X12_isHere_76 at h
  refine fhW.blk fhPM fhLL hΓ [(.iload_n 3, 0), (.aload_n 1, 0)] (pc' := 78) (lv' := [(0, .ref 0), (1, .ref v1), (3, .int v3)]) (st' := [.ref v1, .int v3]) (σ' := σ) (by decide +kernel) rfl rfl rfl ?_
  refine fhW.blk fhPM fhLL hΓ [(.arraylength, 0)] (pc' := 79) (lv' := [(0, .ref 0), (1, .ref v1), (3, .int v3)]) (st' := [.int (Int32.ofNat (fhYM.1 v1).2.2), .int v3]) (σ' := σ) (by decide +kernel) rfl rfl (fhsWl hv1) ?_
  refine fhW.i_ge hΓ (tgt := 107) (show fhbk _ _ (.if_icmp .ge (28)) _ = true by decide +kernel) (fun hc => ?_) (fun hc => ?_)
  · rw [if_pos hc] at h
    refine fhW.blk fhPM fhLL hΓ [(.iconst 1, 1)] (pc' := 108) (lv' := [(0, .ref 0), (1, .ref v1), (3, .int v3)]) (st' := [.int (1 : Int32)]) (σ' := σ) (by decide +kernel) rfl rfl rfl ?_
    have e9 := Option.some.inj h
    subst e9
    exact fhW.zret (v := true) hΓ (by decide +kernel) hk
  · rw [if_neg hc] at h
    obtain ⟨hg1, h⟩ := fhif h
    refine fhW.blk fhPM fhLL hΓ [(.aload_n 0, 0), (.getfield 7, 0), (.aload_n 0, 0), (.getfield 268, 0), (.iload_n 3, 0), (.iadd, 0), (.iaload, 0), (.aload_n 1, 0), (.iload_n 3, 0)] (pc' := 95) (lv' := [(0, .ref 0), (1, .ref v1), (3, .int v3)]) (st' := [.int v3, .ref v1, .int (σ.1 1 (fhix ((σ.1 0 2) + v3)))]) (σ' := σ) (by decide +kernel) rfl rfl hg1 ?_
    obtain ⟨hg2, h⟩ := fhif h
    refine fhW.blk fhPM fhLL hΓ [(.caload, 0)] (pc' := 96) (lv' := [(0, .ref 0), (1, .ref v1), (3, .int v3)]) (st' := [.int (σ.1 v1 (fhix v3)), .int (σ.1 1 (fhix ((σ.1 0 2) + v3)))]) (σ' := σ) (by decide +kernel) rfl rfl (fhsW hv1 hg2) ?_
    refine fhW.i_eq hΓ (tgt := 101) (show fhbk _ _ (.if_icmp .eq (5)) _ = true by decide +kernel) (fun hc => ?_) (fun hc => ?_)
    · rw [if_pos hc] at h
      refine fhW.blk fhPM fhLL hΓ [(.iinc 3 1, 1)] (pc' := 104) (lv' := [(3, .int (v3 + (1 : Int32))), (0, .ref 0), (1, .ref v1)]) (st' := []) (σ' := σ) (by decide +kernel) rfl rfl rfl ?_
      refine fhW.goto hΓ (off := (-28)) (tgt := 76) (by decide +kernel) ?_
      refine fhW.sub (lv' := [(0, .ref 0), (1, .ref v1), (3, .int (v3 + (1 : Int32)))]) [1, 2, 0] rfl ?_
      have e9 := Option.some.inj h
      subst e9
      exact hk
    · rw [if_neg hc] at h
      refine fhW.blk fhPM fhLL hΓ [(.iconst 0, 0)] (pc' := 100) (lv' := [(0, .ref 0), (1, .ref v1), (3, .int v3)]) (st' := [.int (0 : Int32)]) (σ' := σ) (by decide +kernel) rfl rfl rfl ?_
      have e9 := Option.some.inj h
      subst e9
      exact fhW.zret (v := false) hΓ (by decide +kernel) hk
set_option maxRecDepth 100000 in
set_option maxHeartbeats 4000000 in
theorem L_X12_isHere_61 {Γ : fhX} (hΓ : fhOk fhYM 12 cX12_isHere 4 (some .boolean) Γ) (hd : 1 ≤ fhD Γ) (v1 : Nat) (v2 : Int32) (hv1 : fhiW v1 = true) (σ : fhM) (o : Bool × fhM) (h : f_X12_isHere_61 v1 v2 σ = some o) (hk : (fun o => fhRet Γ (some (.int (fhb o.1))) o.2) o) : fhW fhYM Γ 61 [(0, .ref 0), (1, .ref v1), (2, .int v2)] [] σ := by
  unfold f_X12_isHere_61 at h
  refine fhW.blk fhPM fhLL hΓ [(.iload_n 2, 0), (.aload_n 0, 0), (.getfield 268, 0), (.isub, 0), (.aload_n 1, 0)] (pc' := 68) (lv' := [(0, .ref 0), (1, .ref v1), (2, .int v2)]) (st' := [.ref v1, .int (v2 - (σ.1 0 2))]) (σ' := σ) (by decide +kernel) rfl rfl rfl ?_
  refine fhW.blk fhPM fhLL hΓ [(.arraylength, 0)] (pc' := 69) (lv' := [(0, .ref 0), (1, .ref v1), (2, .int v2)]) (st' := [.int (Int32.ofNat (fhYM.1 v1).2.2), .int (v2 - (σ.1 0 2))]) (σ' := σ) (by decide +kernel) rfl rfl (fhsWl hv1) ?_
  refine fhW.i_eq hΓ (tgt := 74) (show fhbk _ _ (.if_icmp .eq (5)) _ = true by decide +kernel) (fun hc => ?_) (fun hc => ?_)
  · rw [if_pos hc] at h
    refine fhW.blk fhPM fhLL hΓ [(.iconst 0, 0), (.istore_n 3, 0)] (pc' := 76) (lv' := [(3, .int (0 : Int32)), (0, .ref 0), (1, .ref v1), (2, .int v2)]) (st' := []) (σ' := σ) (by decide +kernel) rfl rfl rfl ?_
    refine fhW.sub (lv' := [(0, .ref 0), (1, .ref v1), (3, .int (0 : Int32))]) [1, 2, 0] rfl ?_
    exact fhlp_ok (W := (fun x => fhW fhYM Γ 76 [(0, .ref 0), (1, .ref v1), (3, .int x)] [] σ)) (B := (fun o => fhRet Γ (some (.int (fhb o.1))) o.2)) (fun x o h hk => L_X12_isHere_76 hΓ hd v1 x hv1 σ o h hk) (0 : Int32) _ h hk
  · rw [if_neg hc] at h
    refine fhW.blk fhPM fhLL hΓ [(.iconst 0, 0)] (pc' := 73) (lv' := [(0, .ref 0), (1, .ref v1), (2, .int v2)]) (st' := [.int (0 : Int32)]) (σ' := σ) (by decide +kernel) rfl rfl rfl ?_
    have e9 := Option.some.inj h
    subst e9
    exact fhW.zret (v := false) hΓ (by decide +kernel) hk
set_option maxRecDepth 100000 in
set_option maxHeartbeats 4000000 in
theorem L_X12_isHere_35 {Γ : fhX} (hΓ : fhOk fhYM 12 cX12_isHere 4 (some .boolean) Γ) (hd : 1 ≤ fhD Γ) (v1 : Nat) (v2 : Int32) (hv1 : fhiW v1 = true) (σ : fhM) (o : (Int32) ⊕ (Bool × fhM)) (h : f_X12_isHere_35 v1 v2 σ = some o) (hk : (fhK (fun x => fhW fhYM Γ 35 [(0, .ref 0), (1, .ref v1), (2, .int x)] [] σ) (fun o => fhRet Γ (some (.int (fhb o.1))) o.2)) o) : fhW fhYM Γ 35 [(0, .ref 0), (1, .ref v1), (2, .int v2)] [] σ := by
  unfold f_X12_isHere_35 at h
  refine fhW.blk fhPM fhLL hΓ [(.iload_n 2, 0), (.aload_n 0, 0), (.getfield 271, 0)] (pc' := 40) (lv' := [(0, .ref 0), (1, .ref v1), (2, .int v2)]) (st' := [.int (σ.1 0 3), .int v2]) (σ' := σ) (by decide +kernel) rfl rfl rfl ?_
  refine fhW.i_ge hΓ (tgt := 61) (show fhbk _ _ (.if_icmp .ge (21)) _ = true by decide +kernel) (fun hc => ?_) (fun hc => ?_)
  · rw [if_pos hc] at h
    refine fhW.sub (lv' := [(0, .ref 0), (1, .ref v1), (2, .int v2)]) [0, 1, 2] rfl ?_
    obtain ⟨z1, hz, e1⟩ := Option.map_eq_some_iff.mp h
    clear h
    subst e1
    have h := hz
    have hk : (fun o => fhRet Γ (some (.int (fhb o.1))) o.2) z1 := hk
    exact L_X12_isHere_61 hΓ hd v1 v2 hv1 σ _ h hk
  · rw [if_neg hc] at h
    obtain ⟨hg3, h⟩ := fhif h
    refine fhW.blk fhPM fhLL hΓ [(.aload_n 0, 0), (.getfield 7, 0), (.iload_n 2, 0), (.iaload, 0)] (pc' := 49) (lv' := [(0, .ref 0), (1, .ref v1), (2, .int v2)]) (st' := [.int (σ.1 1 (fhix v2))]) (σ' := σ) (by decide +kernel) rfl rfl hg3 ?_
    refine fhW.calls hΓ msX12_isLetter ml_12_278 (av := [.int (σ.1 1 (fhix v2))]) (rest := []) (r := (some (.int (fhb (f_X12_isLetter (σ.1 1 (fhix v2)) σ))))) (σ' := σ) (T_X12_isLetter (E := fhEn Γ) (d := fhD Γ - 1) (by omega) (σ.1 1 (fhix v2)) σ) (by omega) (by decide +kernel) rfl (Nat.le_of_ble_eq_true rfl) rfl ?_
    show fhW fhYM Γ 52 [(0, .ref 0), (1, .ref v1), (2, .int v2)] [.int (fhb (f_X12_isLetter (σ.1 1 (fhix v2)) σ))] σ
    refine fhW.b_eq hΓ (tgt := 61) (show fhbk _ _ (.ifCond .eq (9)) _ = true by decide +kernel) (fun hc => ?_) (fun hc => ?_)
    · rw [if_neg hc] at h
      refine fhW.sub (lv' := [(0, .ref 0), (1, .ref v1), (2, .int v2)]) [0, 1, 2] rfl ?_
      obtain ⟨z2, hz, e2⟩ := Option.map_eq_some_iff.mp h
      clear h
      subst e2
      have h := hz
      have hk : (fun o => fhRet Γ (some (.int (fhb o.1))) o.2) z2 := hk
      exact L_X12_isHere_61 hΓ hd v1 v2 hv1 σ _ h hk
    · rw [if_pos hc] at h
      refine fhW.blk fhPM fhLL hΓ [(.iinc 2 1, 1)] (pc' := 58) (lv' := [(2, .int (v2 + (1 : Int32))), (0, .ref 0), (1, .ref v1)]) (st' := []) (σ' := σ) (by decide +kernel) rfl rfl rfl ?_
      refine fhW.goto hΓ (off := (-23)) (tgt := 35) (by decide +kernel) ?_
      refine fhW.sub (lv' := [(0, .ref 0), (1, .ref v1), (2, .int (v2 + (1 : Int32)))]) [1, 2, 0] rfl ?_
      have e9 := Option.some.inj h
      subst e9
      exact hk
set_option maxRecDepth 100000 in
set_option maxHeartbeats 4000000 in
theorem L_X12_isHere_E {Γ : fhX} (hΓ : fhOk fhYM 12 cX12_isHere 4 (some .boolean) Γ) (hd : 1 ≤ fhD Γ) (v1 : Nat) (hv1 : fhiW v1 = true) (σ : fhM) (o : Bool × fhM) (h : f_X12_isHere v1 σ = some o) (hk : (fun o => fhRet Γ (some (.int (fhb o.1))) o.2) o) : fhW fhYM Γ 0 [(0, .ref 0), (1, .ref v1)] [] σ := by
  unfold f_X12_isHere at h
  refine fhW.blk fhPM fhLL hΓ [(.aload_n 0, 0), (.getfield 262, 0)] (pc' := 4) (lv' := [(0, .ref 0), (1, .ref v1)]) (st' := [.int (σ.1 0 5)]) (σ' := σ) (by decide +kernel) rfl rfl rfl ?_
  refine fhW.z_ne hΓ (tgt := 28) (show fhbk _ _ (.ifCond .ne (24)) _ = true by decide +kernel) (fun hc => ?_) (fun hc => ?_)
  · rw [if_neg hc] at h
    refine fhW.blk fhPM fhLL hΓ [(.iconst 0, 0)] (pc' := 29) (lv' := [(0, .ref 0), (1, .ref v1)]) (st' := [.int (0 : Int32)]) (σ' := σ) (by decide +kernel) rfl rfl rfl ?_
    have e9 := Option.some.inj h
    subst e9
    exact fhW.zret (v := false) hΓ (by decide +kernel) hk
  · rw [if_pos hc] at h
    refine fhW.blk fhPM fhLL hΓ [(.aload_n 0, 0)] (pc' := 8) (lv' := [(0, .ref 0), (1, .ref v1)]) (st' := [.ref 0]) (σ' := σ) (by decide +kernel) rfl rfl rfl ?_
    obtain ⟨q1, hb1, h⟩ := Option.bind_eq_some_iff.mp h
    refine fhW.callv hΓ mvX12_look ml_12_274 (t := 0) (ci := 12) (av := []) (rest := []) (r := (some (.int q1.1))) (σ' := q1.2) (T_X12_look (E := fhEn Γ) (d := fhD Γ - 1) (by omega) σ hb1) (by omega) (by decide +kernel) rfl rfl rfl (Nat.le_of_ble_eq_true rfl) rfl ?_
    show fhW fhYM Γ 11 [(0, .ref 0), (1, .ref v1)] [.int q1.1] q1.2
    refine fhW.calls hΓ msX12_isLetter ml_12_278 (av := [.int q1.1]) (rest := []) (r := (some (.int (fhb (f_X12_isLetter q1.1 q1.2))))) (σ' := q1.2) (T_X12_isLetter (E := fhEn Γ) (d := fhD Γ - 1) (by omega) q1.1 q1.2) (by omega) (by decide +kernel) rfl (Nat.le_of_ble_eq_true rfl) rfl ?_
    show fhW fhYM Γ 14 [(0, .ref 0), (1, .ref v1)] [.int (fhb (f_X12_isLetter q1.1 q1.2))] q1.2
    refine fhW.b_eq hΓ (tgt := 28) (show fhbk _ _ (.ifCond .eq (14)) _ = true by decide +kernel) (fun hc => ?_) (fun hc => ?_)
    · rw [if_neg hc] at h
      refine fhW.blk fhPM fhLL hΓ [(.iconst 0, 0)] (pc' := 29) (lv' := [(0, .ref 0), (1, .ref v1)]) (st' := [.int (0 : Int32)]) (σ' := q1.2) (by decide +kernel) rfl rfl rfl ?_
      have e9 := Option.some.inj h
      subst e9
      exact fhW.zret (v := false) hΓ (by decide +kernel) hk
    · rw [if_pos hc] at h
      refine fhW.blk fhPM fhLL hΓ [(.aload_n 0, 0), (.getfield 268, 0), (.aload_n 0, 0), (.getfield 282, 0)] (pc' := 25) (lv' := [(0, .ref 0), (1, .ref v1)]) (st' := [.int (q1.2.1 0 4), .int (q1.2.1 0 2)]) (σ' := q1.2) (by decide +kernel) rfl rfl rfl ?_
      refine fhW.i_ne hΓ (tgt := 30) (show fhbk _ _ (.if_icmp .ne (5)) _ = true by decide +kernel) (fun hc => ?_) (fun hc => ?_)
      · rw [if_neg hc] at h
        refine fhW.blk fhPM fhLL hΓ [(.aload_n 0, 0), (.getfield 268, 0), (.istore_n 2, 0)] (pc' := 35) (lv' := [(2, .int (q1.2.1 0 2)), (0, .ref 0), (1, .ref v1)]) (st' := []) (σ' := q1.2) (by decide +kernel) rfl rfl rfl ?_
        refine fhW.sub (lv' := [(0, .ref 0), (1, .ref v1), (2, .int (q1.2.1 0 2))]) [1, 2, 0] rfl ?_
        exact fhlp_ok (W := (fun x => fhW fhYM Γ 35 [(0, .ref 0), (1, .ref v1), (2, .int x)] [] q1.2)) (B := (fun o => fhRet Γ (some (.int (fhb o.1))) o.2)) (fun x o h hk => L_X12_isHere_35 hΓ hd v1 x hv1 q1.2 o h hk) (q1.2.1 0 2) _ h hk
      · rw [if_pos hc] at h
        refine fhW.blk fhPM fhLL hΓ [(.iconst 0, 0)] (pc' := 29) (lv' := [(0, .ref 0), (1, .ref v1)]) (st' := [.int (0 : Int32)]) (σ' := q1.2) (by decide +kernel) rfl rfl rfl ?_
        have e9 := Option.some.inj h
        subst e9
        exact fhW.zret (v := false) hΓ (by decide +kernel) hk
set_option maxRecDepth 100000 in
theorem T_X12_isHere {E : fhE} {d : Nat} (hd : 1 ≤ d) (v1 : Nat) (hv1 : fhiW v1 = true) (σ : fhM) {o : Bool × fhM} (h : f_X12_isHere v1 σ = some o) : fhC fhYM E d miX12_isHere [.ref 0, .ref v1] σ (some (.int (fhb o.1))) o.2 := by
  refine fhC.of (y := yX12_isHere) (cc := cX12_isHere) (nL := 4) (ret := (some .boolean)) 12 rfl (by decide +kernel) (Nat.le_of_ble_eq_true rfl) ?_
  intro Γ hΓ hR hD hEn
  subst hD; subst hEn
  exact L_X12_isHere_E hΓ hd v1 hv1 σ _ h hR
set_option maxRecDepth 100000 in
set_option maxHeartbeats 4000000 in
theorem L_X12_takes_E {Γ : fhX} (hΓ : fhOk fhYM 12 cX12_takes 2 (some .boolean) Γ) (hd : 2 ≤ fhD Γ) (v1 : Nat) (hv1 : fhiW v1 = true) (σ : fhM) (o : Bool × fhM) (h : f_X12_takes v1 σ = some o) (hk : (fun o => fhRet Γ (some (.int (fhb o.1))) o.2) o) : fhW fhYM Γ 0 [(0, .ref 0), (1, .ref v1)] [] σ := by
  unfold f_X12_takes at h
  refine fhW.blk fhPM fhLL hΓ [(.aload_n 0, 0), (.aload_n 1, 0)] (pc' := 2) (lv' := [(0, .ref 0), (1, .ref v1)]) (st' := [.ref v1, .ref 0]) (σ' := σ) (by decide +kernel) rfl rfl rfl ?_
  obtain ⟨q1, hb1, h⟩ := Option.bind_eq_some_iff.mp h
  refine fhW.callv hΓ mvX12_isHere ml_12_285 (t := 0) (ci := 12) (av := [.ref v1]) (rest := []) (r := (some (.int (fhb q1.1)))) (σ' := q1.2) (T_X12_isHere (E := fhEn Γ) (d := fhD Γ - 1) (by omega) v1 hv1 σ hb1) (by omega) (by decide +kernel) rfl rfl rfl (Nat.le_of_ble_eq_true rfl) rfl ?_
  show fhW fhYM Γ 5 [(0, .ref 0), (1, .ref v1)] [.int (fhb q1.1)] q1.2
  refine fhW.b_ne hΓ (tgt := 10) (show fhbk _ _ (.ifCond .ne (5)) _ = true by decide +kernel) (fun hc => ?_) (fun hc => ?_)
  · rw [if_pos hc] at h
    refine fhW.blk fhPM fhLL hΓ [(.aload_n 0, 0), (.dup, 0), (.getfield 268, 0), (.aload_n 1, 0)] (pc' := 16) (lv' := [(0, .ref 0), (1, .ref v1)]) (st' := [.ref v1, .int (q1.2.1 0 2), .ref 0]) (σ' := q1.2) (by decide +kernel) rfl rfl rfl ?_
    refine fhW.blk fhPM fhLL hΓ [(.arraylength, 0)] (pc' := 17) (lv' := [(0, .ref 0), (1, .ref v1)]) (st' := [.int (Int32.ofNat (fhYM.1 v1).2.2), .int (q1.2.1 0 2), .ref 0]) (σ' := q1.2) (by decide +kernel) rfl rfl (fhsWl hv1) ?_
    refine fhW.blk fhPM fhLL hΓ [(.iadd, 0), (.putfield 268, 0), (.aload_n 0, 0), (.aload_n 0, 0), (.getfield 268, 0), (.putfield 282, 0), (.iconst 1, 1)] (pc' := 30) (lv' := [(0, .ref 0), (1, .ref v1)]) (st' := [.int (1 : Int32)]) (σ' := (fhI (fhI q1.2 0 2 ((q1.2.1 0 2) + (Int32.ofNat (fhYM.1 v1).2.2))) 0 4 ((q1.2.1 0 2) + (Int32.ofNat (fhYM.1 v1).2.2)))) (by decide +kernel) rfl rfl rfl ?_
    have e9 := Option.some.inj h
    subst e9
    exact fhW.zret (v := true) hΓ (by decide +kernel) hk
  · rw [if_neg hc] at h
    refine fhW.blk fhPM fhLL hΓ [(.iconst 0, 0)] (pc' := 9) (lv' := [(0, .ref 0), (1, .ref v1)]) (st' := [.int (0 : Int32)]) (σ' := q1.2) (by decide +kernel) rfl rfl rfl ?_
    have e9 := Option.some.inj h
    subst e9
    exact fhW.zret (v := false) hΓ (by decide +kernel) hk
set_option maxRecDepth 100000 in
theorem T_X12_takes {E : fhE} {d : Nat} (hd : 2 ≤ d) (v1 : Nat) (hv1 : fhiW v1 = true) (σ : fhM) {o : Bool × fhM} (h : f_X12_takes v1 σ = some o) : fhC fhYM E d miX12_takes [.ref 0, .ref v1] σ (some (.int (fhb o.1))) o.2 := by
  refine fhC.of (y := yX12_takes) (cc := cX12_takes) (nL := 2) (ret := (some .boolean)) 12 rfl (by decide +kernel) (Nat.le_of_ble_eq_true rfl) ?_
  intro Γ hΓ hR hD hEn
  subst hD; subst hEn
  exact L_X12_takes_E hΓ hd v1 hv1 σ _ h hR
set_option maxRecDepth 100000 in
set_option maxHeartbeats 4000000 in
theorem L_X12_asks_E {Γ : fhX} (hΓ : fhOk fhYM 12 cX12_asks 2 none Γ) (hd : 3 ≤ fhD Γ) (v1 : Nat) (hv1 : fhiW v1 = true) (σ : fhM) (o : fhM) (h : f_X12_asks v1 σ = some o) (hk : (fun o => fhRet Γ none o) o) : fhW fhYM Γ 0 [(0, .ref 0), (1, .ref v1)] [] σ := by
  unfold f_X12_asks at h
  refine fhW.blk fhPM fhLL hΓ [(.aload_n 0, 0), (.getfield 262, 0)] (pc' := 4) (lv' := [(0, .ref 0), (1, .ref v1)]) (st' := [.int (σ.1 0 5)]) (σ' := σ) (by decide +kernel) rfl rfl rfl ?_
  refine fhW.z_ne hΓ (tgt := 24) (show fhbk _ _ (.ifCond .ne (20)) _ = true by decide +kernel) (fun hc => ?_) (fun hc => ?_)
  · rw [if_neg hc] at h
    have e9 := Option.some.inj h
    subst e9
    exact fhW.vret hΓ (by decide +kernel) hk
  · rw [if_pos hc] at h
    refine fhW.blk fhPM fhLL hΓ [(.aload_n 0, 0), (.aload_n 1, 0)] (pc' := 9) (lv' := [(0, .ref 0), (1, .ref v1)]) (st' := [.ref v1, .ref 0]) (σ' := σ) (by decide +kernel) rfl rfl rfl ?_
    obtain ⟨q1, hb1, h⟩ := Option.bind_eq_some_iff.mp h
    refine fhW.callv hΓ mvX12_takes ml_12_289 (t := 0) (ci := 12) (av := [.ref v1]) (rest := []) (r := (some (.int (fhb q1.1)))) (σ' := q1.2) (T_X12_takes (E := fhEn Γ) (d := fhD Γ - 1) (by omega) v1 hv1 σ hb1) (by omega) (by decide +kernel) rfl rfl rfl (Nat.le_of_ble_eq_true rfl) rfl ?_
    show fhW fhYM Γ 12 [(0, .ref 0), (1, .ref v1)] [.int (fhb q1.1)] q1.2
    refine fhW.b_ne hΓ (tgt := 24) (show fhbk _ _ (.ifCond .ne (12)) _ = true by decide +kernel) (fun hc => ?_) (fun hc => ?_)
    · rw [if_pos hc] at h
      have e9 := Option.some.inj h
      subst e9
      exact fhW.vret hΓ (by decide +kernel) hk
    · rw [if_neg hc] at h
      refine fhW.blk fhPM fhLL hΓ [(.aload_n 0, 0), (.iconst 1, 1), (.aload_n 0, 0), (.getfield 268, 0)] (pc' := 21) (lv' := [(0, .ref 0), (1, .ref v1)]) (st' := [.int (q1.2.1 0 2), .int (1 : Int32), .ref 0]) (σ' := q1.2) (by decide +kernel) rfl rfl rfl ?_
      refine fhW.callv hΓ mvX12_fail ml_12_292 (t := 0) (ci := 12) (av := [.int (1 : Int32), .int (q1.2.1 0 2)]) (rest := []) (r := none) (σ' := (f_X12_fail (1 : Int32) (q1.2.1 0 2) q1.2)) (T_X12_fail (E := fhEn Γ) (d := fhD Γ - 1) (by omega) (1 : Int32) (q1.2.1 0 2) q1.2) (by omega) (by decide +kernel) rfl rfl rfl (Nat.le_of_ble_eq_true rfl) rfl ?_
      show fhW fhYM Γ 24 [(0, .ref 0), (1, .ref v1)] [] (f_X12_fail (1 : Int32) (q1.2.1 0 2) q1.2)
      obtain ⟨q2, e1, h⟩ := fhlet_elim h
      rw [← e1]
      have e9 := Option.some.inj h
      subst e9
      exact fhW.vret hΓ (by decide +kernel) hk
set_option maxRecDepth 100000 in
theorem T_X12_asks {E : fhE} {d : Nat} (hd : 3 ≤ d) (v1 : Nat) (hv1 : fhiW v1 = true) (σ : fhM) {o : fhM} (h : f_X12_asks v1 σ = some o) : fhC fhYM E d miX12_asks [.ref 0, .ref v1] σ none o := by
  refine fhC.of (y := yX12_asks) (cc := cX12_asks) (nL := 2) (ret := none) 12 rfl (by decide +kernel) (Nat.le_of_ble_eq_true rfl) ?_
  intro Γ hΓ hR hD hEn
  subst hD; subst hEn
  exact L_X12_asks_E hΓ hd v1 hv1 σ _ h hR
set_option maxRecDepth 100000 in
set_option maxHeartbeats 4000000 in
theorem L_X12_takesSign_E {Γ : fhX} (hΓ : fhOk fhYM 12 cX12_takesSign 2 (some .boolean) Γ) (hd : 1 ≤ fhD Γ) (v1 : Int32)  (σ : fhM) (o : Bool × fhM) (h : f_X12_takesSign v1 σ = some o) (hk : (fun o => fhRet Γ (some (.int (fhb o.1))) o.2) o) : fhW fhYM Γ 0 [(0, .ref 0), (1, .int v1)] [] σ := by
  unfold f_X12_takesSign at h
  refine fhW.blk fhPM fhLL hΓ [(.aload_n 0, 0), (.getfield 262, 0)] (pc' := 4) (lv' := [(0, .ref 0), (1, .int v1)]) (st' := [.int (σ.1 0 5)]) (σ' := σ) (by decide +kernel) rfl rfl rfl ?_
  refine fhW.z_ne hΓ (tgt := 15) (show fhbk _ _ (.ifCond .ne (11)) _ = true by decide +kernel) (fun hc => ?_) (fun hc => ?_)
  · rw [if_neg hc] at h
    refine fhW.blk fhPM fhLL hΓ [(.iconst 0, 0)] (pc' := 16) (lv' := [(0, .ref 0), (1, .int v1)]) (st' := [.int (0 : Int32)]) (σ' := σ) (by decide +kernel) rfl rfl rfl ?_
    have e9 := Option.some.inj h
    subst e9
    exact fhW.zret (v := false) hΓ (by decide +kernel) hk
  · rw [if_pos hc] at h
    refine fhW.blk fhPM fhLL hΓ [(.aload_n 0, 0)] (pc' := 8) (lv' := [(0, .ref 0), (1, .int v1)]) (st' := [.ref 0]) (σ' := σ) (by decide +kernel) rfl rfl rfl ?_
    obtain ⟨q1, hb1, h⟩ := Option.bind_eq_some_iff.mp h
    refine fhW.callv hΓ mvX12_look ml_12_274 (t := 0) (ci := 12) (av := []) (rest := []) (r := (some (.int q1.1))) (σ' := q1.2) (T_X12_look (E := fhEn Γ) (d := fhD Γ - 1) (by omega) σ hb1) (by omega) (by decide +kernel) rfl rfl rfl (Nat.le_of_ble_eq_true rfl) rfl ?_
    show fhW fhYM Γ 11 [(0, .ref 0), (1, .int v1)] [.int q1.1] q1.2
    refine fhW.blk fhPM fhLL hΓ [(.iload_n 1, 0)] (pc' := 12) (lv' := [(0, .ref 0), (1, .int v1)]) (st' := [.int v1, .int q1.1]) (σ' := q1.2) (by decide +kernel) rfl rfl rfl ?_
    refine fhW.i_eq hΓ (tgt := 17) (show fhbk _ _ (.if_icmp .eq (5)) _ = true by decide +kernel) (fun hc => ?_) (fun hc => ?_)
    · rw [if_pos hc] at h
      refine fhW.blk fhPM fhLL hΓ [(.aload_n 0, 0), (.dup, 0), (.getfield 268, 0), (.iconst 1, 1), (.iadd, 0), (.putfield 268, 0), (.iconst 1, 1)] (pc' := 28) (lv' := [(0, .ref 0), (1, .int v1)]) (st' := [.int (1 : Int32)]) (σ' := (fhI q1.2 0 2 ((q1.2.1 0 2) + (1 : Int32)))) (by decide +kernel) rfl rfl rfl ?_
      have e9 := Option.some.inj h
      subst e9
      exact fhW.zret (v := true) hΓ (by decide +kernel) hk
    · rw [if_neg hc] at h
      refine fhW.blk fhPM fhLL hΓ [(.iconst 0, 0)] (pc' := 16) (lv' := [(0, .ref 0), (1, .int v1)]) (st' := [.int (0 : Int32)]) (σ' := q1.2) (by decide +kernel) rfl rfl rfl ?_
      have e9 := Option.some.inj h
      subst e9
      exact fhW.zret (v := false) hΓ (by decide +kernel) hk
set_option maxRecDepth 100000 in
theorem T_X12_takesSign {E : fhE} {d : Nat} (hd : 1 ≤ d) (v1 : Int32)  (σ : fhM) {o : Bool × fhM} (h : f_X12_takesSign v1 σ = some o) : fhC fhYM E d miX12_takesSign [.ref 0, .int v1] σ (some (.int (fhb o.1))) o.2 := by
  refine fhC.of (y := yX12_takesSign) (cc := cX12_takesSign) (nL := 2) (ret := (some .boolean)) 12 rfl (by decide +kernel) (Nat.le_of_ble_eq_true rfl) ?_
  intro Γ hΓ hR hD hEn
  subst hD; subst hEn
  exact L_X12_takesSign_E hΓ hd v1  σ _ h hR
set_option maxRecDepth 100000 in
set_option maxHeartbeats 4000000 in
theorem L_X12_asksSign_E {Γ : fhX} (hΓ : fhOk fhYM 12 cX12_asksSign 2 none Γ) (hd : 2 ≤ fhD Γ) (v1 : Int32)  (σ : fhM) (o : fhM) (h : f_X12_asksSign v1 σ = some o) (hk : (fun o => fhRet Γ none o) o) : fhW fhYM Γ 0 [(0, .ref 0), (1, .int v1)] [] σ := by
  unfold f_X12_asksSign at h
  refine fhW.blk fhPM fhLL hΓ [(.aload_n 0, 0), (.getfield 262, 0)] (pc' := 4) (lv' := [(0, .ref 0), (1, .int v1)]) (st' := [.int (σ.1 0 5)]) (σ' := σ) (by decide +kernel) rfl rfl rfl ?_
  refine fhW.z_ne hΓ (tgt := 24) (show fhbk _ _ (.ifCond .ne (20)) _ = true by decide +kernel) (fun hc => ?_) (fun hc => ?_)
  · rw [if_neg hc] at h
    have e9 := Option.some.inj h
    subst e9
    exact fhW.vret hΓ (by decide +kernel) hk
  · rw [if_pos hc] at h
    refine fhW.blk fhPM fhLL hΓ [(.aload_n 0, 0), (.iload_n 1, 0)] (pc' := 9) (lv' := [(0, .ref 0), (1, .int v1)]) (st' := [.int v1, .ref 0]) (σ' := σ) (by decide +kernel) rfl rfl rfl ?_
    obtain ⟨q1, hb1, h⟩ := Option.bind_eq_some_iff.mp h
    refine fhW.callv hΓ mvX12_takesSign ml_12_296 (t := 0) (ci := 12) (av := [.int v1]) (rest := []) (r := (some (.int (fhb q1.1)))) (σ' := q1.2) (T_X12_takesSign (E := fhEn Γ) (d := fhD Γ - 1) (by omega) v1 σ hb1) (by omega) (by decide +kernel) rfl rfl rfl (Nat.le_of_ble_eq_true rfl) rfl ?_
    show fhW fhYM Γ 12 [(0, .ref 0), (1, .int v1)] [.int (fhb q1.1)] q1.2
    refine fhW.b_ne hΓ (tgt := 24) (show fhbk _ _ (.ifCond .ne (12)) _ = true by decide +kernel) (fun hc => ?_) (fun hc => ?_)
    · rw [if_pos hc] at h
      have e9 := Option.some.inj h
      subst e9
      exact fhW.vret hΓ (by decide +kernel) hk
    · rw [if_neg hc] at h
      refine fhW.blk fhPM fhLL hΓ [(.aload_n 0, 0), (.iconst 1, 1), (.aload_n 0, 0), (.getfield 268, 0)] (pc' := 21) (lv' := [(0, .ref 0), (1, .int v1)]) (st' := [.int (q1.2.1 0 2), .int (1 : Int32), .ref 0]) (σ' := q1.2) (by decide +kernel) rfl rfl rfl ?_
      refine fhW.callv hΓ mvX12_fail ml_12_292 (t := 0) (ci := 12) (av := [.int (1 : Int32), .int (q1.2.1 0 2)]) (rest := []) (r := none) (σ' := (f_X12_fail (1 : Int32) (q1.2.1 0 2) q1.2)) (T_X12_fail (E := fhEn Γ) (d := fhD Γ - 1) (by omega) (1 : Int32) (q1.2.1 0 2) q1.2) (by omega) (by decide +kernel) rfl rfl rfl (Nat.le_of_ble_eq_true rfl) rfl ?_
      show fhW fhYM Γ 24 [(0, .ref 0), (1, .int v1)] [] (f_X12_fail (1 : Int32) (q1.2.1 0 2) q1.2)
      obtain ⟨q2, e1, h⟩ := fhlet_elim h
      rw [← e1]
      have e9 := Option.some.inj h
      subst e9
      exact fhW.vret hΓ (by decide +kernel) hk
set_option maxRecDepth 100000 in
theorem T_X12_asksSign {E : fhE} {d : Nat} (hd : 2 ≤ d) (v1 : Int32)  (σ : fhM) {o : fhM} (h : f_X12_asksSign v1 σ = some o) : fhC fhYM E d miX12_asksSign [.ref 0, .int v1] σ none o := by
  refine fhC.of (y := yX12_asksSign) (cc := cX12_asksSign) (nL := 2) (ret := none) 12 rfl (by decide +kernel) (Nat.le_of_ble_eq_true rfl) ?_
  intro Γ hΓ hR hD hEn
  subst hD; subst hEn
  exact L_X12_asksSign_E hΓ hd v1  σ _ h hR
set_option maxRecDepth 100000 in
set_option maxHeartbeats 4000000 in
theorem L_X12_number_30 {Γ : fhX} (hΓ : fhOk fhYM 12 cX12_number 5 (some .int) Γ) (hd : 1 ≤ fhD Γ)   (σ : fhM) (o : Int32 × fhM) (h : f_X12_number_30 σ = some o) (hk : (fun o => fhRet Γ (some (.int o.1)) o.2) o) : fhW fhYM Γ 30 [(0, .ref 0)] [] σ := by
  unfold f_X12_number_30 at h
  refine fhW.blk fhPM fhLL hΓ [(.aload_n 0, 0), (.iconst 1, 1), (.aload_n 0, 0), (.getfield 268, 0)] (pc' := 36) (lv' := [(0, .ref 0)]) (st' := [.int (σ.1 0 2), .int (1 : Int32), .ref 0]) (σ' := σ) (by decide +kernel) rfl rfl rfl ?_
  refine fhW.callv hΓ mvX12_fail ml_12_292 (t := 0) (ci := 12) (av := [.int (1 : Int32), .int (σ.1 0 2)]) (rest := []) (r := none) (σ' := (f_X12_fail (1 : Int32) (σ.1 0 2) σ)) (T_X12_fail (E := fhEn Γ) (d := fhD Γ - 1) (by omega) (1 : Int32) (σ.1 0 2) σ) (by omega) (by decide +kernel) rfl rfl rfl (Nat.le_of_ble_eq_true rfl) rfl ?_
  show fhW fhYM Γ 39 [(0, .ref 0)] [] (f_X12_fail (1 : Int32) (σ.1 0 2) σ)
  obtain ⟨q2, e1, h⟩ := fhlet_elim h
  rw [← e1]
  refine fhW.blk fhPM fhLL hΓ [(.iconst 0, 0)] (pc' := 40) (lv' := [(0, .ref 0)]) (st' := [.int (0 : Int32)]) (σ' := q2) (by decide +kernel) rfl rfl rfl ?_
  have e9 := Option.some.inj h
  subst e9
  exact fhW.iret hΓ (by decide +kernel) hk
set_option maxRecDepth 100000 in
set_option maxHeartbeats 4000000 in
theorem L_X12_number_129 {Γ : fhX} (hΓ : fhOk fhYM 12 cX12_number 5 (some .int) Γ) (hd : 1 ≤ fhD Γ) (v1 : Int32) (v2 : Int32) (v3 : Int32) (v4 : Int32)  (σ : fhM) (o : Int32 × fhM) (h : f_X12_number_129 v1 v2 v3 v4 σ = some o) (hk : (fun o => fhRet Γ (some (.int o.1)) o.2) o) : fhW fhYM Γ 129 [(0, .ref 0), (1, .int v1), (2, .int v2), (3, .int v3), (4, .int v4)] [] σ := by
  unfold f_X12_number_129 at h
  refine fhW.blk fhPM fhLL hΓ [(.aload_n 0, 0), (.aload_n 0, 0), (.getfield 268, 0), (.putfield 282, 0), (.aload_n 0, 0), (.iload_n 3, 0), (.putfield 302, 0), (.iload 4, 0), (.i2l, 0), (.iload_n 1, 0), (.i2l, 0), (.iload_n 2, 0), (.i2l, 0)] (pc' := 149) (lv' := [(0, .ref 0), (1, .int v1), (2, .int v2), (3, .int v3), (4, .int v4)]) (st' := [.long (Int32.toInt64 v2), .long (Int32.toInt64 v1), .long (Int32.toInt64 v4)]) (σ' := (fhI (fhI σ 0 4 (σ.1 0 2)) 0 10 v3)) (by decide +kernel) rfl rfl rfl ?_
  refine fhW.calls hΓ msX12_isIn ml_12_305 (av := [.long (Int32.toInt64 v4), .long (Int32.toInt64 v1), .long (Int32.toInt64 v2)]) (rest := []) (r := (some (.int (fhb (f_X12_isIn (Int32.toInt64 v4) (Int32.toInt64 v1) (Int32.toInt64 v2) (fhI (fhI σ 0 4 (σ.1 0 2)) 0 10 v3)))))) (σ' := (fhI (fhI σ 0 4 (σ.1 0 2)) 0 10 v3)) (T_X12_isIn (E := fhEn Γ) (d := fhD Γ - 1) (by omega) (Int32.toInt64 v4) (Int32.toInt64 v1) (Int32.toInt64 v2) (fhI (fhI σ 0 4 (σ.1 0 2)) 0 10 v3)) (by omega) (by decide +kernel) rfl (Nat.le_of_ble_eq_true rfl) rfl ?_
  show fhW fhYM Γ 152 [(0, .ref 0), (1, .int v1), (2, .int v2), (3, .int v3), (4, .int v4)] [.int (fhb (f_X12_isIn (Int32.toInt64 v4) (Int32.toInt64 v1) (Int32.toInt64 v2) (fhI (fhI σ 0 4 (σ.1 0 2)) 0 10 v3)))] (fhI (fhI σ 0 4 (σ.1 0 2)) 0 10 v3)
  refine fhW.b_ne hΓ (tgt := 164) (show fhbk _ _ (.ifCond .ne (12)) _ = true by decide +kernel) (fun hc => ?_) (fun hc => ?_)
  · rw [if_pos hc] at h
    refine fhW.blk fhPM fhLL hΓ [(.iload 4, 0)] (pc' := 166) (lv' := [(0, .ref 0), (1, .int v1), (2, .int v2), (3, .int v3), (4, .int v4)]) (st' := [.int v4]) (σ' := (fhI (fhI σ 0 4 (σ.1 0 2)) 0 10 v3)) (by decide +kernel) rfl rfl rfl ?_
    have e9 := Option.some.inj h
    subst e9
    exact fhW.iret hΓ (by decide +kernel) hk
  · rw [if_neg hc] at h
    refine fhW.blk fhPM fhLL hΓ [(.aload_n 0, 0), (.iconst 2, 2), (.aload_n 0, 0), (.getfield 302, 0)] (pc' := 161) (lv' := [(0, .ref 0), (1, .int v1), (2, .int v2), (3, .int v3), (4, .int v4)]) (st' := [.int v3, .int (2 : Int32), .ref 0]) (σ' := (fhI (fhI σ 0 4 (σ.1 0 2)) 0 10 v3)) (by decide +kernel) rfl rfl rfl ?_
    refine fhW.callv hΓ mvX12_fail ml_12_292 (t := 0) (ci := 12) (av := [.int (2 : Int32), .int v3]) (rest := []) (r := none) (σ' := (f_X12_fail (2 : Int32) v3 (fhI (fhI σ 0 4 (σ.1 0 2)) 0 10 v3))) (T_X12_fail (E := fhEn Γ) (d := fhD Γ - 1) (by omega) (2 : Int32) v3 (fhI (fhI σ 0 4 (σ.1 0 2)) 0 10 v3)) (by omega) (by decide +kernel) rfl rfl rfl (Nat.le_of_ble_eq_true rfl) rfl ?_
    show fhW fhYM Γ 164 [(0, .ref 0), (1, .int v1), (2, .int v2), (3, .int v3), (4, .int v4)] [] (f_X12_fail (2 : Int32) v3 (fhI (fhI σ 0 4 (σ.1 0 2)) 0 10 v3))
    obtain ⟨q4, e2, h⟩ := fhlet_elim h
    rw [← e2]
    refine fhW.blk fhPM fhLL hΓ [(.iload 4, 0)] (pc' := 166) (lv' := [(0, .ref 0), (1, .int v1), (2, .int v2), (3, .int v3), (4, .int v4)]) (st' := [.int v4]) (σ' := q4) (by decide +kernel) rfl rfl rfl ?_
    have e9 := Option.some.inj h
    subst e9
    exact fhW.iret hΓ (by decide +kernel) hk
set_option maxRecDepth 100000 in
set_option maxHeartbeats 4000000 in
theorem L_X12_number_49 {Γ : fhX} (hΓ : fhOk fhYM 12 cX12_number 5 (some .int) Γ) (hd : 1 ≤ fhD Γ) (v1 : Int32) (v2 : Int32) (v3 : Int32) (v4 : Int32)  (σ : fhM) (o : (Int32 × fhM) ⊕ (Int32 × fhM)) (h : f_X12_number_49 v1 v2 v3 v4 σ = some o) (hk : (fhK (fun x => fhW fhYM Γ 49 [(0, .ref 0), (1, .int v1), (2, .int v2), (3, .int v3), (4, .int x.1)] [] x.2) (fun o => fhRet Γ (some (.int o.1)) o.2)) o) : fhW fhYM Γ 49 [(0, .ref 0), (1, .int v1), (2, .int v2), (3, .int v3), (4, .int v4)] [] σ := by
  unfold f_X12_number_49 at h
  refine fhW.blk fhPM fhLL hΓ [(.aload_n 0, 0), (.getfield 268, 0), (.aload_n 0, 0), (.getfield 271, 0)] (pc' := 57) (lv' := [(0, .ref 0), (1, .int v1), (2, .int v2), (3, .int v3), (4, .int v4)]) (st' := [.int (σ.1 0 3), .int (σ.1 0 2)]) (σ' := σ) (by decide +kernel) rfl rfl rfl ?_
  refine fhW.i_ge hΓ (tgt := 129) (show fhbk _ _ (.if_icmp .ge (72)) _ = true by decide +kernel) (fun hc => ?_) (fun hc => ?_)
  · rw [if_pos hc] at h
    refine fhW.sub (lv' := [(0, .ref 0), (1, .int v1), (2, .int v2), (3, .int v3), (4, .int v4)]) [0, 1, 2, 3, 4] rfl ?_
    obtain ⟨z1, hz, e3⟩ := Option.map_eq_some_iff.mp h
    clear h
    subst e3
    have h := hz
    have hk : (fun o => fhRet Γ (some (.int o.1)) o.2) z1 := hk
    exact L_X12_number_129 hΓ hd v1 v2 v3 v4 σ _ h hk
  · rw [if_neg hc] at h
    obtain ⟨hg1, h⟩ := fhif h
    refine fhW.blk fhPM fhLL hΓ [(.aload_n 0, 0), (.getfield 7, 0), (.aload_n 0, 0), (.getfield 268, 0), (.iaload, 0)] (pc' := 69) (lv' := [(0, .ref 0), (1, .int v1), (2, .int v2), (3, .int v3), (4, .int v4)]) (st' := [.int (σ.1 1 (fhix (σ.1 0 2)))]) (σ' := σ) (by decide +kernel) rfl rfl hg1 ?_
    refine fhW.calls hΓ msX12_isDigit ml_12_299 (av := [.int (σ.1 1 (fhix (σ.1 0 2)))]) (rest := []) (r := (some (.int (fhb (f_X12_isDigit (σ.1 1 (fhix (σ.1 0 2))) σ))))) (σ' := σ) (T_X12_isDigit (E := fhEn Γ) (d := fhD Γ - 1) (by omega) (σ.1 1 (fhix (σ.1 0 2))) σ) (by omega) (by decide +kernel) rfl (Nat.le_of_ble_eq_true rfl) rfl ?_
    show fhW fhYM Γ 72 [(0, .ref 0), (1, .int v1), (2, .int v2), (3, .int v3), (4, .int v4)] [.int (fhb (f_X12_isDigit (σ.1 1 (fhix (σ.1 0 2))) σ))] σ
    refine fhW.b_eq hΓ (tgt := 129) (show fhbk _ _ (.ifCond .eq (57)) _ = true by decide +kernel) (fun hc => ?_) (fun hc => ?_)
    · rw [if_neg hc] at h
      refine fhW.sub (lv' := [(0, .ref 0), (1, .int v1), (2, .int v2), (3, .int v3), (4, .int v4)]) [0, 1, 2, 3, 4] rfl ?_
      obtain ⟨z2, hz, e4⟩ := Option.map_eq_some_iff.mp h
      clear h
      subst e4
      have h := hz
      have hk : (fun o => fhRet Γ (some (.int o.1)) o.2) z2 := hk
      exact L_X12_number_129 hΓ hd v1 v2 v3 v4 σ _ h hk
    · rw [if_pos hc] at h
      refine fhW.blk fhPM fhLL hΓ [(.aload_n 0, 0), (.getfield 268, 0), (.iload_n 3, 0), (.isub, 0), (.iconst 4, 4)] (pc' := 82) (lv' := [(0, .ref 0), (1, .int v1), (2, .int v2), (3, .int v3), (4, .int v4)]) (st' := [.int (4 : Int32), .int ((σ.1 0 2) - v3)]) (σ' := σ) (by decide +kernel) rfl rfl rfl ?_
      refine fhW.i_ne hΓ (tgt := 96) (show fhbk _ _ (.if_icmp .ne (14)) _ = true by decide +kernel) (fun hc => ?_) (fun hc => ?_)
      · rw [if_neg hc] at h
        obtain ⟨hg2, h⟩ := fhif h
        refine fhW.blk fhPM fhLL hΓ [(.bipush 10, 10), (.iload 4, 0), (.imul, 0), (.aload_n 0, 0), (.getfield 7, 0), (.aload_n 0, 0), (.getfield 268, 0), (.iaload, 0), (.iadd, 0), (.bipush 48, 48), (.isub, 0), (.istore 4, 0)] (pc' := 116) (lv' := [(4, .int ((((10 : Int32) * v4) + (σ.1 1 (fhix (σ.1 0 2)))) - (48 : Int32))), (0, .ref 0), (1, .int v1), (2, .int v2), (3, .int v3)]) (st' := []) (σ' := σ) (by decide +kernel) rfl rfl hg2 ?_
        obtain ⟨w4_1, e5, h⟩ := fhlet_elim h
        rw [← e5]
        refine fhW.blk fhPM fhLL hΓ [(.aload_n 0, 0), (.dup, 0), (.getfield 268, 0), (.iconst 1, 1), (.iadd, 0), (.putfield 268, 0)] (pc' := 126) (lv' := [(4, .int w4_1), (0, .ref 0), (1, .int v1), (2, .int v2), (3, .int v3)]) (st' := []) (σ' := (fhI σ 0 2 ((σ.1 0 2) + (1 : Int32)))) (by decide +kernel) rfl rfl rfl ?_
        refine fhW.goto hΓ (off := (-77)) (tgt := 49) (by decide +kernel) ?_
        refine fhW.sub (lv' := [(0, .ref 0), (1, .int v1), (2, .int v2), (3, .int v3), (4, .int w4_1)]) [1, 2, 3, 4, 0] rfl ?_
        have e9 := Option.some.inj h
        subst e9
        exact hk
      · rw [if_pos hc] at h
        refine fhW.blk fhPM fhLL hΓ [(.aload_n 0, 0), (.iconst 1, 1), (.aload_n 0, 0), (.getfield 268, 0)] (pc' := 91) (lv' := [(0, .ref 0), (1, .int v1), (2, .int v2), (3, .int v3), (4, .int v4)]) (st' := [.int (σ.1 0 2), .int (1 : Int32), .ref 0]) (σ' := σ) (by decide +kernel) rfl rfl rfl ?_
        refine fhW.callv hΓ mvX12_fail ml_12_292 (t := 0) (ci := 12) (av := [.int (1 : Int32), .int (σ.1 0 2)]) (rest := []) (r := none) (σ' := (f_X12_fail (1 : Int32) (σ.1 0 2) σ)) (T_X12_fail (E := fhEn Γ) (d := fhD Γ - 1) (by omega) (1 : Int32) (σ.1 0 2) σ) (by omega) (by decide +kernel) rfl rfl rfl (Nat.le_of_ble_eq_true rfl) rfl ?_
        show fhW fhYM Γ 94 [(0, .ref 0), (1, .int v1), (2, .int v2), (3, .int v3), (4, .int v4)] [] (f_X12_fail (1 : Int32) (σ.1 0 2) σ)
        obtain ⟨q3, e6, h⟩ := fhlet_elim h
        rw [← e6]
        refine fhW.blk fhPM fhLL hΓ [(.iconst 0, 0)] (pc' := 95) (lv' := [(0, .ref 0), (1, .int v1), (2, .int v2), (3, .int v3), (4, .int v4)]) (st' := [.int (0 : Int32)]) (σ' := q3) (by decide +kernel) rfl rfl rfl ?_
        have e9 := Option.some.inj h
        subst e9
        exact fhW.iret hΓ (by decide +kernel) hk
set_option maxRecDepth 100000 in
set_option maxHeartbeats 4000000 in
theorem L_X12_number_E {Γ : fhX} (hΓ : fhOk fhYM 12 cX12_number 5 (some .int) Γ) (hd : 1 ≤ fhD Γ) (v1 : Int32) (v2 : Int32)  (σ : fhM) (o : Int32 × fhM) (h : f_X12_number v1 v2 σ = some o) (hk : (fun o => fhRet Γ (some (.int o.1)) o.2) o) : fhW fhYM Γ 0 [(0, .ref 0), (1, .int v1), (2, .int v2)] [] σ := by
  unfold f_X12_number at h
  refine fhW.blk fhPM fhLL hΓ [(.aload_n 0, 0), (.getfield 262, 0)] (pc' := 4) (lv' := [(0, .ref 0), (1, .int v1), (2, .int v2)]) (st' := [.int (σ.1 0 5)]) (σ' := σ) (by decide +kernel) rfl rfl rfl ?_
  refine fhW.z_eq hΓ (tgt := 9) (show fhbk _ _ (.ifCond .eq (5)) _ = true by decide +kernel) (fun hc => ?_) (fun hc => ?_)
  · rw [if_pos hc] at h
    refine fhW.blk fhPM fhLL hΓ [(.aload_n 0, 0)] (pc' := 10) (lv' := [(0, .ref 0), (1, .int v1), (2, .int v2)]) (st' := [.ref 0]) (σ' := σ) (by decide +kernel) rfl rfl rfl ?_
    obtain ⟨q1, hb1, h⟩ := Option.bind_eq_some_iff.mp h
    refine fhW.callv hΓ mvX12_look ml_12_274 (t := 0) (ci := 12) (av := []) (rest := []) (r := (some (.int q1.1))) (σ' := q1.2) (T_X12_look (E := fhEn Γ) (d := fhD Γ - 1) (by omega) σ hb1) (by omega) (by decide +kernel) rfl rfl rfl (Nat.le_of_ble_eq_true rfl) rfl ?_
    show fhW fhYM Γ 13 [(0, .ref 0), (1, .int v1), (2, .int v2)] [.int q1.1] q1.2
    refine fhW.calls hΓ msX12_isDigit ml_12_299 (av := [.int q1.1]) (rest := []) (r := (some (.int (fhb (f_X12_isDigit q1.1 q1.2))))) (σ' := q1.2) (T_X12_isDigit (E := fhEn Γ) (d := fhD Γ - 1) (by omega) q1.1 q1.2) (by omega) (by decide +kernel) rfl (Nat.le_of_ble_eq_true rfl) rfl ?_
    show fhW fhYM Γ 16 [(0, .ref 0), (1, .int v1), (2, .int v2)] [.int (fhb (f_X12_isDigit q1.1 q1.2))] q1.2
    refine fhW.b_eq hΓ (tgt := 30) (show fhbk _ _ (.ifCond .eq (14)) _ = true by decide +kernel) (fun hc => ?_) (fun hc => ?_)
    · rw [if_neg hc] at h
      refine fhW.sub (lv' := [(0, .ref 0)]) [0] rfl ?_
      exact L_X12_number_30 hΓ hd q1.2 _ h hk
    · rw [if_pos hc] at h
      refine fhW.blk fhPM fhLL hΓ [(.aload_n 0, 0), (.getfield 268, 0), (.aload_n 0, 0), (.getfield 282, 0)] (pc' := 27) (lv' := [(0, .ref 0), (1, .int v1), (2, .int v2)]) (st' := [.int (q1.2.1 0 4), .int (q1.2.1 0 2)]) (σ' := q1.2) (by decide +kernel) rfl rfl rfl ?_
      refine fhW.i_ne hΓ (tgt := 41) (show fhbk _ _ (.if_icmp .ne (14)) _ = true by decide +kernel) (fun hc => ?_) (fun hc => ?_)
      · rw [if_neg hc] at h
        refine fhW.blk fhPM fhLL hΓ [(.aload_n 0, 0), (.getfield 268, 0), (.istore_n 3, 0), (.iconst 0, 0), (.istore 4, 0)] (pc' := 49) (lv' := [(4, .int (0 : Int32)), (3, .int (q1.2.1 0 2)), (0, .ref 0), (1, .int v1), (2, .int v2)]) (st' := []) (σ' := q1.2) (by decide +kernel) rfl rfl rfl ?_
        refine fhW.sub (lv' := [(0, .ref 0), (1, .int v1), (2, .int v2), (3, .int (q1.2.1 0 2)), (4, .int (0 : Int32))]) [2, 3, 4, 1, 0] rfl ?_
        exact fhlp_ok (W := (fun x => fhW fhYM Γ 49 [(0, .ref 0), (1, .int v1), (2, .int v2), (3, .int (q1.2.1 0 2)), (4, .int x.1)] [] x.2)) (B := (fun o => fhRet Γ (some (.int o.1)) o.2)) (fun x o h hk => L_X12_number_49 hΓ hd v1 v2 (q1.2.1 0 2) x.1 x.2 o h hk) ((0 : Int32), q1.2) _ h hk
      · rw [if_pos hc] at h
        refine fhW.sub (lv' := [(0, .ref 0)]) [0] rfl ?_
        exact L_X12_number_30 hΓ hd q1.2 _ h hk
  · rw [if_neg hc] at h
    refine fhW.blk fhPM fhLL hΓ [(.iconst 0, 0)] (pc' := 8) (lv' := [(0, .ref 0), (1, .int v1), (2, .int v2)]) (st' := [.int (0 : Int32)]) (σ' := σ) (by decide +kernel) rfl rfl rfl ?_
    have e9 := Option.some.inj h
    subst e9
    exact fhW.iret hΓ (by decide +kernel) hk
set_option maxRecDepth 100000 in
theorem T_X12_number {E : fhE} {d : Nat} (hd : 1 ≤ d) (v1 : Int32) (v2 : Int32)  (σ : fhM) {o : Int32 × fhM} (h : f_X12_number v1 v2 σ = some o) : fhC fhYM E d miX12_number [.ref 0, .int v1, .int v2] σ (some (.int o.1)) o.2 := by
  refine fhC.of (y := yX12_number) (cc := cX12_number) (nL := 5) (ret := (some .int)) 12 rfl (by decide +kernel) (Nat.le_of_ble_eq_true rfl) ?_
  intro Γ hΓ hR hD hEn
  subst hD; subst hEn
  exact L_X12_number_E hΓ hd v1 v2  σ _ h hR
set_option maxRecDepth 100000 in
set_option maxHeartbeats 4000000 in
theorem L_X12_isOwnHere_331 {Γ : fhX} (hΓ : fhOk fhYM 12 cX12_isOwnHere 2 (some .boolean) Γ) (hd : 2 ≤ fhD Γ) (s0 : Bool)  (σ : fhM) (o : Bool × fhM) (h : f_X12_isOwnHere_331 s0 σ = some o) (hk : (fun o => fhRet Γ (some (.int (fhb o.1))) o.2) o) : fhW fhYM Γ 331 [] [.int (fhb s0)] σ := by
  unfold f_X12_isOwnHere_331 at h
  refine fhW.blk fhPM fhLL hΓ [(.istore_n 1, 0), (.iload_n 1, 0)] (pc' := 333) (lv' := [(1, .int (fhb s0))]) (st' := [.int (fhb s0)]) (σ' := σ) (by decide +kernel) rfl rfl rfl ?_
  have e9 := Option.some.inj h
  subst e9
  exact fhW.zret (v := s0) hΓ (by decide +kernel) hk
set_option maxRecDepth 100000 in
set_option maxHeartbeats 4000000 in
theorem L_X12_isOwnHere_326 {Γ : fhX} (hΓ : fhOk fhYM 12 cX12_isOwnHere 2 (some .boolean) Γ) (hd : 2 ≤ fhD Γ)   (σ : fhM) (o : Bool × fhM) (h : f_X12_isOwnHere_326 σ = some o) (hk : (fun o => fhRet Γ (some (.int (fhb o.1))) o.2) o) : fhW fhYM Γ 326 [] [] σ := by
  unfold f_X12_isOwnHere_326 at h
  refine fhW.blk fhPM fhLL hΓ [(.iconst 1, 1)] (pc' := 327) (lv' := []) (st' := [.int (1 : Int32)]) (σ' := σ) (by decide +kernel) rfl rfl rfl ?_
  refine fhW.goto hΓ (off := 4) (tgt := 331) (by decide +kernel) ?_
  refine fhW.sub (lv' := []) [] rfl ?_
  exact L_X12_isOwnHere_331 hΓ hd true σ _ h hk
set_option maxRecDepth 100000 in
set_option maxHeartbeats 4000000 in
theorem L_X12_isOwnHere_299 {Γ : fhX} (hΓ : fhOk fhYM 12 cX12_isOwnHere 2 (some .boolean) Γ) (hd : 2 ≤ fhD Γ) (s0 : Int32)  (σ : fhM) (o : Bool × fhM) (h : f_X12_isOwnHere_299 s0 σ = some o) (hk : (fun o => fhRet Γ (some (.int (fhb o.1))) o.2) o) : fhW fhYM Γ 299 [(0, .ref 0)] [.int s0] σ := by
  unfold f_X12_isOwnHere_299 at h
  refine fhW.blk fhPM fhLL hΓ [(.istore_n 1, 0), (.iload_n 1, 0)] (pc' := 301) (lv' := [(1, .int s0), (0, .ref 0)]) (st' := [.int s0]) (σ' := σ) (by decide +kernel) rfl rfl rfl ?_
  refine fhW.z_ne hΓ (tgt := 326) (show fhbk _ _ (.ifCond .ne (25)) _ = true by decide +kernel) (fun hc => ?_) (fun hc => ?_)
  · rw [if_neg hc] at h
    refine fhW.sub (lv' := []) [] rfl ?_
    exact L_X12_isOwnHere_326 hΓ hd σ _ h hk
  · rw [if_pos hc] at h
    refine fhW.blk fhPM fhLL hΓ [(.aload_n 0, 0), (.aload_n 0, 0), (.getfield 93, 0)] (pc' := 309) (lv' := [(1, .int s0), (0, .ref 0)]) (st' := [.ref 27, .ref 0]) (σ' := σ) (by decide +kernel) rfl rfl rfl ?_
    obtain ⟨q25, hb1, h⟩ := Option.bind_eq_some_iff.mp h
    refine fhW.callv hΓ mvX12_isHere ml_12_285 (t := 0) (ci := 12) (av := [.ref 27]) (rest := []) (r := (some (.int (fhb q25.1)))) (σ' := q25.2) (T_X12_isHere (E := fhEn Γ) (d := fhD Γ - 1) (by omega) 27 rfl σ hb1) (by omega) (by decide +kernel) rfl rfl rfl (Nat.le_of_ble_eq_true rfl) rfl ?_
    show fhW fhYM Γ 312 [(1, .int s0), (0, .ref 0)] [.int (fhb q25.1)] q25.2
    refine fhW.b_ne hΓ (tgt := 326) (show fhbk _ _ (.ifCond .ne (14)) _ = true by decide +kernel) (fun hc => ?_) (fun hc => ?_)
    · rw [if_pos hc] at h
      refine fhW.sub (lv' := []) [] rfl ?_
      exact L_X12_isOwnHere_326 hΓ hd q25.2 _ h hk
    · rw [if_neg hc] at h
      refine fhW.blk fhPM fhLL hΓ [(.aload_n 0, 0), (.aload_n 0, 0), (.getfield 96, 0)] (pc' := 320) (lv' := [(1, .int s0), (0, .ref 0)]) (st' := [.ref 28, .ref 0]) (σ' := q25.2) (by decide +kernel) rfl rfl rfl ?_
      obtain ⟨q26, hb2, h⟩ := Option.bind_eq_some_iff.mp h
      refine fhW.callv hΓ mvX12_isHere ml_12_285 (t := 0) (ci := 12) (av := [.ref 28]) (rest := []) (r := (some (.int (fhb q26.1)))) (σ' := q26.2) (T_X12_isHere (E := fhEn Γ) (d := fhD Γ - 1) (by omega) 28 rfl q25.2 hb2) (by omega) (by decide +kernel) rfl rfl rfl (Nat.le_of_ble_eq_true rfl) rfl ?_
      show fhW fhYM Γ 323 [(1, .int s0), (0, .ref 0)] [.int (fhb q26.1)] q26.2
      refine fhW.b_eq hΓ (tgt := 330) (show fhbk _ _ (.ifCond .eq (7)) _ = true by decide +kernel) (fun hc => ?_) (fun hc => ?_)
      · rw [if_neg hc] at h
        refine fhW.blk fhPM fhLL hΓ [(.iconst 0, 0)] (pc' := 331) (lv' := [(1, .int s0), (0, .ref 0)]) (st' := [.int (0 : Int32)]) (σ' := q26.2) (by decide +kernel) rfl rfl rfl ?_
        refine fhW.sub (lv' := []) [] rfl ?_
        exact L_X12_isOwnHere_331 hΓ hd false q26.2 _ h hk
      · rw [if_pos hc] at h
        refine fhW.sub (lv' := []) [] rfl ?_
        exact L_X12_isOwnHere_326 hΓ hd q26.2 _ h hk
set_option maxRecDepth 100000 in
set_option maxHeartbeats 4000000 in
theorem L_X12_isOwnHere_294 {Γ : fhX} (hΓ : fhOk fhYM 12 cX12_isOwnHere 2 (some .boolean) Γ) (hd : 2 ≤ fhD Γ)   (σ : fhM) (o : Bool × fhM) (h : f_X12_isOwnHere_294 σ = some o) (hk : (fun o => fhRet Γ (some (.int (fhb o.1))) o.2) o) : fhW fhYM Γ 294 [(0, .ref 0)] [] σ := by
  unfold f_X12_isOwnHere_294 at h
  refine fhW.blk fhPM fhLL hΓ [(.iconst 1, 1)] (pc' := 295) (lv' := [(0, .ref 0)]) (st' := [.int (1 : Int32)]) (σ' := σ) (by decide +kernel) rfl rfl rfl ?_
  refine fhW.goto hΓ (off := 4) (tgt := 299) (by decide +kernel) ?_
  refine fhW.sub (lv' := [(0, .ref 0)]) [0] rfl ?_
  exact L_X12_isOwnHere_299 hΓ hd (1 : Int32) σ _ h hk
set_option maxRecDepth 100000 in
set_option maxHeartbeats 4000000 in
theorem L_X12_isOwnHere_223 {Γ : fhX} (hΓ : fhOk fhYM 12 cX12_isOwnHere 2 (some .boolean) Γ) (hd : 2 ≤ fhD Γ) (s0 : Int32)  (σ : fhM) (o : Bool × fhM) (h : f_X12_isOwnHere_223 s0 σ = some o) (hk : (fun o => fhRet Γ (some (.int (fhb o.1))) o.2) o) : fhW fhYM Γ 223 [(0, .ref 0)] [.int s0] σ := by
  unfold f_X12_isOwnHere_223 at h
  refine fhW.blk fhPM fhLL hΓ [(.istore_n 1, 0), (.iload_n 1, 0)] (pc' := 225) (lv' := [(1, .int s0), (0, .ref 0)]) (st' := [.int s0]) (σ' := σ) (by decide +kernel) rfl rfl rfl ?_
  refine fhW.z_ne hΓ (tgt := 294) (show fhbk _ _ (.ifCond .ne (69)) _ = true by decide +kernel) (fun hc => ?_) (fun hc => ?_)
  · rw [if_neg hc] at h
    refine fhW.sub (lv' := [(0, .ref 0)]) [1] rfl ?_
    exact L_X12_isOwnHere_294 hΓ hd σ _ h hk
  · rw [if_pos hc] at h
    refine fhW.blk fhPM fhLL hΓ [(.aload_n 0, 0), (.aload_n 0, 0), (.getfield 75, 0)] (pc' := 233) (lv' := [(1, .int s0), (0, .ref 0)]) (st' := [.ref 21, .ref 0]) (σ' := σ) (by decide +kernel) rfl rfl rfl ?_
    obtain ⟨q19, hb3, h⟩ := Option.bind_eq_some_iff.mp h
    refine fhW.callv hΓ mvX12_isHere ml_12_285 (t := 0) (ci := 12) (av := [.ref 21]) (rest := []) (r := (some (.int (fhb q19.1)))) (σ' := q19.2) (T_X12_isHere (E := fhEn Γ) (d := fhD Γ - 1) (by omega) 21 rfl σ hb3) (by omega) (by decide +kernel) rfl rfl rfl (Nat.le_of_ble_eq_true rfl) rfl ?_
    show fhW fhYM Γ 236 [(1, .int s0), (0, .ref 0)] [.int (fhb q19.1)] q19.2
    refine fhW.b_ne hΓ (tgt := 294) (show fhbk _ _ (.ifCond .ne (58)) _ = true by decide +kernel) (fun hc => ?_) (fun hc => ?_)
    · rw [if_pos hc] at h
      refine fhW.sub (lv' := [(0, .ref 0)]) [1] rfl ?_
      exact L_X12_isOwnHere_294 hΓ hd q19.2 _ h hk
    · rw [if_neg hc] at h
      refine fhW.blk fhPM fhLL hΓ [(.aload_n 0, 0), (.aload_n 0, 0), (.getfield 78, 0)] (pc' := 244) (lv' := [(1, .int s0), (0, .ref 0)]) (st' := [.ref 22, .ref 0]) (σ' := q19.2) (by decide +kernel) rfl rfl rfl ?_
      obtain ⟨q20, hb4, h⟩ := Option.bind_eq_some_iff.mp h
      refine fhW.callv hΓ mvX12_isHere ml_12_285 (t := 0) (ci := 12) (av := [.ref 22]) (rest := []) (r := (some (.int (fhb q20.1)))) (σ' := q20.2) (T_X12_isHere (E := fhEn Γ) (d := fhD Γ - 1) (by omega) 22 rfl q19.2 hb4) (by omega) (by decide +kernel) rfl rfl rfl (Nat.le_of_ble_eq_true rfl) rfl ?_
      show fhW fhYM Γ 247 [(1, .int s0), (0, .ref 0)] [.int (fhb q20.1)] q20.2
      refine fhW.b_ne hΓ (tgt := 294) (show fhbk _ _ (.ifCond .ne (47)) _ = true by decide +kernel) (fun hc => ?_) (fun hc => ?_)
      · rw [if_pos hc] at h
        refine fhW.sub (lv' := [(0, .ref 0)]) [1] rfl ?_
        exact L_X12_isOwnHere_294 hΓ hd q20.2 _ h hk
      · rw [if_neg hc] at h
        refine fhW.blk fhPM fhLL hΓ [(.aload_n 0, 0), (.aload_n 0, 0), (.getfield 81, 0)] (pc' := 255) (lv' := [(1, .int s0), (0, .ref 0)]) (st' := [.ref 23, .ref 0]) (σ' := q20.2) (by decide +kernel) rfl rfl rfl ?_
        obtain ⟨q21, hb5, h⟩ := Option.bind_eq_some_iff.mp h
        refine fhW.callv hΓ mvX12_isHere ml_12_285 (t := 0) (ci := 12) (av := [.ref 23]) (rest := []) (r := (some (.int (fhb q21.1)))) (σ' := q21.2) (T_X12_isHere (E := fhEn Γ) (d := fhD Γ - 1) (by omega) 23 rfl q20.2 hb5) (by omega) (by decide +kernel) rfl rfl rfl (Nat.le_of_ble_eq_true rfl) rfl ?_
        show fhW fhYM Γ 258 [(1, .int s0), (0, .ref 0)] [.int (fhb q21.1)] q21.2
        refine fhW.b_ne hΓ (tgt := 294) (show fhbk _ _ (.ifCond .ne (36)) _ = true by decide +kernel) (fun hc => ?_) (fun hc => ?_)
        · rw [if_pos hc] at h
          refine fhW.sub (lv' := [(0, .ref 0)]) [1] rfl ?_
          exact L_X12_isOwnHere_294 hΓ hd q21.2 _ h hk
        · rw [if_neg hc] at h
          refine fhW.blk fhPM fhLL hΓ [(.aload_n 0, 0), (.aload_n 0, 0), (.getfield 84, 0)] (pc' := 266) (lv' := [(1, .int s0), (0, .ref 0)]) (st' := [.ref 24, .ref 0]) (σ' := q21.2) (by decide +kernel) rfl rfl rfl ?_
          obtain ⟨q22, hb6, h⟩ := Option.bind_eq_some_iff.mp h
          refine fhW.callv hΓ mvX12_isHere ml_12_285 (t := 0) (ci := 12) (av := [.ref 24]) (rest := []) (r := (some (.int (fhb q22.1)))) (σ' := q22.2) (T_X12_isHere (E := fhEn Γ) (d := fhD Γ - 1) (by omega) 24 rfl q21.2 hb6) (by omega) (by decide +kernel) rfl rfl rfl (Nat.le_of_ble_eq_true rfl) rfl ?_
          show fhW fhYM Γ 269 [(1, .int s0), (0, .ref 0)] [.int (fhb q22.1)] q22.2
          refine fhW.b_ne hΓ (tgt := 294) (show fhbk _ _ (.ifCond .ne (25)) _ = true by decide +kernel) (fun hc => ?_) (fun hc => ?_)
          · rw [if_pos hc] at h
            refine fhW.sub (lv' := [(0, .ref 0)]) [1] rfl ?_
            exact L_X12_isOwnHere_294 hΓ hd q22.2 _ h hk
          · rw [if_neg hc] at h
            refine fhW.blk fhPM fhLL hΓ [(.aload_n 0, 0), (.aload_n 0, 0), (.getfield 87, 0)] (pc' := 277) (lv' := [(1, .int s0), (0, .ref 0)]) (st' := [.ref 25, .ref 0]) (σ' := q22.2) (by decide +kernel) rfl rfl rfl ?_
            obtain ⟨q23, hb7, h⟩ := Option.bind_eq_some_iff.mp h
            refine fhW.callv hΓ mvX12_isHere ml_12_285 (t := 0) (ci := 12) (av := [.ref 25]) (rest := []) (r := (some (.int (fhb q23.1)))) (σ' := q23.2) (T_X12_isHere (E := fhEn Γ) (d := fhD Γ - 1) (by omega) 25 rfl q22.2 hb7) (by omega) (by decide +kernel) rfl rfl rfl (Nat.le_of_ble_eq_true rfl) rfl ?_
            show fhW fhYM Γ 280 [(1, .int s0), (0, .ref 0)] [.int (fhb q23.1)] q23.2
            refine fhW.b_ne hΓ (tgt := 294) (show fhbk _ _ (.ifCond .ne (14)) _ = true by decide +kernel) (fun hc => ?_) (fun hc => ?_)
            · rw [if_pos hc] at h
              refine fhW.sub (lv' := [(0, .ref 0)]) [1] rfl ?_
              exact L_X12_isOwnHere_294 hΓ hd q23.2 _ h hk
            · rw [if_neg hc] at h
              refine fhW.blk fhPM fhLL hΓ [(.aload_n 0, 0), (.aload_n 0, 0), (.getfield 90, 0)] (pc' := 288) (lv' := [(1, .int s0), (0, .ref 0)]) (st' := [.ref 26, .ref 0]) (σ' := q23.2) (by decide +kernel) rfl rfl rfl ?_
              obtain ⟨q24, hb8, h⟩ := Option.bind_eq_some_iff.mp h
              refine fhW.callv hΓ mvX12_isHere ml_12_285 (t := 0) (ci := 12) (av := [.ref 26]) (rest := []) (r := (some (.int (fhb q24.1)))) (σ' := q24.2) (T_X12_isHere (E := fhEn Γ) (d := fhD Γ - 1) (by omega) 26 rfl q23.2 hb8) (by omega) (by decide +kernel) rfl rfl rfl (Nat.le_of_ble_eq_true rfl) rfl ?_
              show fhW fhYM Γ 291 [(1, .int s0), (0, .ref 0)] [.int (fhb q24.1)] q24.2
              refine fhW.b_eq hΓ (tgt := 298) (show fhbk _ _ (.ifCond .eq (7)) _ = true by decide +kernel) (fun hc => ?_) (fun hc => ?_)
              · rw [if_neg hc] at h
                refine fhW.blk fhPM fhLL hΓ [(.iconst 0, 0)] (pc' := 299) (lv' := [(1, .int s0), (0, .ref 0)]) (st' := [.int (0 : Int32)]) (σ' := q24.2) (by decide +kernel) rfl rfl rfl ?_
                refine fhW.sub (lv' := [(0, .ref 0)]) [1] rfl ?_
                exact L_X12_isOwnHere_299 hΓ hd (0 : Int32) q24.2 _ h hk
              · rw [if_pos hc] at h
                refine fhW.sub (lv' := [(0, .ref 0)]) [1] rfl ?_
                exact L_X12_isOwnHere_294 hΓ hd q24.2 _ h hk
set_option maxRecDepth 100000 in
set_option maxHeartbeats 4000000 in
theorem L_X12_isOwnHere_218 {Γ : fhX} (hΓ : fhOk fhYM 12 cX12_isOwnHere 2 (some .boolean) Γ) (hd : 2 ≤ fhD Γ)   (σ : fhM) (o : Bool × fhM) (h : f_X12_isOwnHere_218 σ = some o) (hk : (fun o => fhRet Γ (some (.int (fhb o.1))) o.2) o) : fhW fhYM Γ 218 [(0, .ref 0)] [] σ := by
  unfold f_X12_isOwnHere_218 at h
  refine fhW.blk fhPM fhLL hΓ [(.iconst 1, 1)] (pc' := 219) (lv' := [(0, .ref 0)]) (st' := [.int (1 : Int32)]) (σ' := σ) (by decide +kernel) rfl rfl rfl ?_
  refine fhW.goto hΓ (off := 4) (tgt := 223) (by decide +kernel) ?_
  refine fhW.sub (lv' := [(0, .ref 0)]) [0] rfl ?_
  exact L_X12_isOwnHere_223 hΓ hd (1 : Int32) σ _ h hk
set_option maxRecDepth 100000 in
set_option maxHeartbeats 4000000 in
theorem L_X12_isOwnHere_147 {Γ : fhX} (hΓ : fhOk fhYM 12 cX12_isOwnHere 2 (some .boolean) Γ) (hd : 2 ≤ fhD Γ) (s0 : Int32)  (σ : fhM) (o : Bool × fhM) (h : f_X12_isOwnHere_147 s0 σ = some o) (hk : (fun o => fhRet Γ (some (.int (fhb o.1))) o.2) o) : fhW fhYM Γ 147 [(0, .ref 0)] [.int s0] σ := by
  unfold f_X12_isOwnHere_147 at h
  refine fhW.blk fhPM fhLL hΓ [(.istore_n 1, 0), (.iload_n 1, 0)] (pc' := 149) (lv' := [(1, .int s0), (0, .ref 0)]) (st' := [.int s0]) (σ' := σ) (by decide +kernel) rfl rfl rfl ?_
  refine fhW.z_ne hΓ (tgt := 218) (show fhbk _ _ (.ifCond .ne (69)) _ = true by decide +kernel) (fun hc => ?_) (fun hc => ?_)
  · rw [if_neg hc] at h
    refine fhW.sub (lv' := [(0, .ref 0)]) [1] rfl ?_
    exact L_X12_isOwnHere_218 hΓ hd σ _ h hk
  · rw [if_pos hc] at h
    refine fhW.blk fhPM fhLL hΓ [(.aload_n 0, 0), (.aload_n 0, 0), (.getfield 57, 0)] (pc' := 157) (lv' := [(1, .int s0), (0, .ref 0)]) (st' := [.ref 15, .ref 0]) (σ' := σ) (by decide +kernel) rfl rfl rfl ?_
    obtain ⟨q13, hb9, h⟩ := Option.bind_eq_some_iff.mp h
    refine fhW.callv hΓ mvX12_isHere ml_12_285 (t := 0) (ci := 12) (av := [.ref 15]) (rest := []) (r := (some (.int (fhb q13.1)))) (σ' := q13.2) (T_X12_isHere (E := fhEn Γ) (d := fhD Γ - 1) (by omega) 15 rfl σ hb9) (by omega) (by decide +kernel) rfl rfl rfl (Nat.le_of_ble_eq_true rfl) rfl ?_
    show fhW fhYM Γ 160 [(1, .int s0), (0, .ref 0)] [.int (fhb q13.1)] q13.2
    refine fhW.b_ne hΓ (tgt := 218) (show fhbk _ _ (.ifCond .ne (58)) _ = true by decide +kernel) (fun hc => ?_) (fun hc => ?_)
    · rw [if_pos hc] at h
      refine fhW.sub (lv' := [(0, .ref 0)]) [1] rfl ?_
      exact L_X12_isOwnHere_218 hΓ hd q13.2 _ h hk
    · rw [if_neg hc] at h
      refine fhW.blk fhPM fhLL hΓ [(.aload_n 0, 0), (.aload_n 0, 0), (.getfield 60, 0)] (pc' := 168) (lv' := [(1, .int s0), (0, .ref 0)]) (st' := [.ref 16, .ref 0]) (σ' := q13.2) (by decide +kernel) rfl rfl rfl ?_
      obtain ⟨q14, hb10, h⟩ := Option.bind_eq_some_iff.mp h
      refine fhW.callv hΓ mvX12_isHere ml_12_285 (t := 0) (ci := 12) (av := [.ref 16]) (rest := []) (r := (some (.int (fhb q14.1)))) (σ' := q14.2) (T_X12_isHere (E := fhEn Γ) (d := fhD Γ - 1) (by omega) 16 rfl q13.2 hb10) (by omega) (by decide +kernel) rfl rfl rfl (Nat.le_of_ble_eq_true rfl) rfl ?_
      show fhW fhYM Γ 171 [(1, .int s0), (0, .ref 0)] [.int (fhb q14.1)] q14.2
      refine fhW.b_ne hΓ (tgt := 218) (show fhbk _ _ (.ifCond .ne (47)) _ = true by decide +kernel) (fun hc => ?_) (fun hc => ?_)
      · rw [if_pos hc] at h
        refine fhW.sub (lv' := [(0, .ref 0)]) [1] rfl ?_
        exact L_X12_isOwnHere_218 hΓ hd q14.2 _ h hk
      · rw [if_neg hc] at h
        refine fhW.blk fhPM fhLL hΓ [(.aload_n 0, 0), (.aload_n 0, 0), (.getfield 63, 0)] (pc' := 179) (lv' := [(1, .int s0), (0, .ref 0)]) (st' := [.ref 17, .ref 0]) (σ' := q14.2) (by decide +kernel) rfl rfl rfl ?_
        obtain ⟨q15, hb11, h⟩ := Option.bind_eq_some_iff.mp h
        refine fhW.callv hΓ mvX12_isHere ml_12_285 (t := 0) (ci := 12) (av := [.ref 17]) (rest := []) (r := (some (.int (fhb q15.1)))) (σ' := q15.2) (T_X12_isHere (E := fhEn Γ) (d := fhD Γ - 1) (by omega) 17 rfl q14.2 hb11) (by omega) (by decide +kernel) rfl rfl rfl (Nat.le_of_ble_eq_true rfl) rfl ?_
        show fhW fhYM Γ 182 [(1, .int s0), (0, .ref 0)] [.int (fhb q15.1)] q15.2
        refine fhW.b_ne hΓ (tgt := 218) (show fhbk _ _ (.ifCond .ne (36)) _ = true by decide +kernel) (fun hc => ?_) (fun hc => ?_)
        · rw [if_pos hc] at h
          refine fhW.sub (lv' := [(0, .ref 0)]) [1] rfl ?_
          exact L_X12_isOwnHere_218 hΓ hd q15.2 _ h hk
        · rw [if_neg hc] at h
          refine fhW.blk fhPM fhLL hΓ [(.aload_n 0, 0), (.aload_n 0, 0), (.getfield 66, 0)] (pc' := 190) (lv' := [(1, .int s0), (0, .ref 0)]) (st' := [.ref 18, .ref 0]) (σ' := q15.2) (by decide +kernel) rfl rfl rfl ?_
          obtain ⟨q16, hb12, h⟩ := Option.bind_eq_some_iff.mp h
          refine fhW.callv hΓ mvX12_isHere ml_12_285 (t := 0) (ci := 12) (av := [.ref 18]) (rest := []) (r := (some (.int (fhb q16.1)))) (σ' := q16.2) (T_X12_isHere (E := fhEn Γ) (d := fhD Γ - 1) (by omega) 18 rfl q15.2 hb12) (by omega) (by decide +kernel) rfl rfl rfl (Nat.le_of_ble_eq_true rfl) rfl ?_
          show fhW fhYM Γ 193 [(1, .int s0), (0, .ref 0)] [.int (fhb q16.1)] q16.2
          refine fhW.b_ne hΓ (tgt := 218) (show fhbk _ _ (.ifCond .ne (25)) _ = true by decide +kernel) (fun hc => ?_) (fun hc => ?_)
          · rw [if_pos hc] at h
            refine fhW.sub (lv' := [(0, .ref 0)]) [1] rfl ?_
            exact L_X12_isOwnHere_218 hΓ hd q16.2 _ h hk
          · rw [if_neg hc] at h
            refine fhW.blk fhPM fhLL hΓ [(.aload_n 0, 0), (.aload_n 0, 0), (.getfield 69, 0)] (pc' := 201) (lv' := [(1, .int s0), (0, .ref 0)]) (st' := [.ref 19, .ref 0]) (σ' := q16.2) (by decide +kernel) rfl rfl rfl ?_
            obtain ⟨q17, hb13, h⟩ := Option.bind_eq_some_iff.mp h
            refine fhW.callv hΓ mvX12_isHere ml_12_285 (t := 0) (ci := 12) (av := [.ref 19]) (rest := []) (r := (some (.int (fhb q17.1)))) (σ' := q17.2) (T_X12_isHere (E := fhEn Γ) (d := fhD Γ - 1) (by omega) 19 rfl q16.2 hb13) (by omega) (by decide +kernel) rfl rfl rfl (Nat.le_of_ble_eq_true rfl) rfl ?_
            show fhW fhYM Γ 204 [(1, .int s0), (0, .ref 0)] [.int (fhb q17.1)] q17.2
            refine fhW.b_ne hΓ (tgt := 218) (show fhbk _ _ (.ifCond .ne (14)) _ = true by decide +kernel) (fun hc => ?_) (fun hc => ?_)
            · rw [if_pos hc] at h
              refine fhW.sub (lv' := [(0, .ref 0)]) [1] rfl ?_
              exact L_X12_isOwnHere_218 hΓ hd q17.2 _ h hk
            · rw [if_neg hc] at h
              refine fhW.blk fhPM fhLL hΓ [(.aload_n 0, 0), (.aload_n 0, 0), (.getfield 72, 0)] (pc' := 212) (lv' := [(1, .int s0), (0, .ref 0)]) (st' := [.ref 20, .ref 0]) (σ' := q17.2) (by decide +kernel) rfl rfl rfl ?_
              obtain ⟨q18, hb14, h⟩ := Option.bind_eq_some_iff.mp h
              refine fhW.callv hΓ mvX12_isHere ml_12_285 (t := 0) (ci := 12) (av := [.ref 20]) (rest := []) (r := (some (.int (fhb q18.1)))) (σ' := q18.2) (T_X12_isHere (E := fhEn Γ) (d := fhD Γ - 1) (by omega) 20 rfl q17.2 hb14) (by omega) (by decide +kernel) rfl rfl rfl (Nat.le_of_ble_eq_true rfl) rfl ?_
              show fhW fhYM Γ 215 [(1, .int s0), (0, .ref 0)] [.int (fhb q18.1)] q18.2
              refine fhW.b_eq hΓ (tgt := 222) (show fhbk _ _ (.ifCond .eq (7)) _ = true by decide +kernel) (fun hc => ?_) (fun hc => ?_)
              · rw [if_neg hc] at h
                refine fhW.blk fhPM fhLL hΓ [(.iconst 0, 0)] (pc' := 223) (lv' := [(1, .int s0), (0, .ref 0)]) (st' := [.int (0 : Int32)]) (σ' := q18.2) (by decide +kernel) rfl rfl rfl ?_
                refine fhW.sub (lv' := [(0, .ref 0)]) [1] rfl ?_
                exact L_X12_isOwnHere_223 hΓ hd (0 : Int32) q18.2 _ h hk
              · rw [if_pos hc] at h
                refine fhW.sub (lv' := [(0, .ref 0)]) [1] rfl ?_
                exact L_X12_isOwnHere_218 hΓ hd q18.2 _ h hk
set_option maxRecDepth 100000 in
set_option maxHeartbeats 4000000 in
theorem L_X12_isOwnHere_142 {Γ : fhX} (hΓ : fhOk fhYM 12 cX12_isOwnHere 2 (some .boolean) Γ) (hd : 2 ≤ fhD Γ)   (σ : fhM) (o : Bool × fhM) (h : f_X12_isOwnHere_142 σ = some o) (hk : (fun o => fhRet Γ (some (.int (fhb o.1))) o.2) o) : fhW fhYM Γ 142 [(0, .ref 0)] [] σ := by
  unfold f_X12_isOwnHere_142 at h
  refine fhW.blk fhPM fhLL hΓ [(.iconst 1, 1)] (pc' := 143) (lv' := [(0, .ref 0)]) (st' := [.int (1 : Int32)]) (σ' := σ) (by decide +kernel) rfl rfl rfl ?_
  refine fhW.goto hΓ (off := 4) (tgt := 147) (by decide +kernel) ?_
  refine fhW.sub (lv' := [(0, .ref 0)]) [0] rfl ?_
  exact L_X12_isOwnHere_147 hΓ hd (1 : Int32) σ _ h hk
set_option maxRecDepth 100000 in
set_option maxHeartbeats 4000000 in
theorem L_X12_isOwnHere_71 {Γ : fhX} (hΓ : fhOk fhYM 12 cX12_isOwnHere 2 (some .boolean) Γ) (hd : 2 ≤ fhD Γ) (s0 : Int32)  (σ : fhM) (o : Bool × fhM) (h : f_X12_isOwnHere_71 s0 σ = some o) (hk : (fun o => fhRet Γ (some (.int (fhb o.1))) o.2) o) : fhW fhYM Γ 71 [(0, .ref 0)] [.int s0] σ := by
  unfold f_X12_isOwnHere_71 at h
  refine fhW.blk fhPM fhLL hΓ [(.istore_n 1, 0), (.iload_n 1, 0)] (pc' := 73) (lv' := [(1, .int s0), (0, .ref 0)]) (st' := [.int s0]) (σ' := σ) (by decide +kernel) rfl rfl rfl ?_
  refine fhW.z_ne hΓ (tgt := 142) (show fhbk _ _ (.ifCond .ne (69)) _ = true by decide +kernel) (fun hc => ?_) (fun hc => ?_)
  · rw [if_neg hc] at h
    refine fhW.sub (lv' := [(0, .ref 0)]) [1] rfl ?_
    exact L_X12_isOwnHere_142 hΓ hd σ _ h hk
  · rw [if_pos hc] at h
    refine fhW.blk fhPM fhLL hΓ [(.aload_n 0, 0), (.aload_n 0, 0), (.getfield 39, 0)] (pc' := 81) (lv' := [(1, .int s0), (0, .ref 0)]) (st' := [.ref 9, .ref 0]) (σ' := σ) (by decide +kernel) rfl rfl rfl ?_
    obtain ⟨q7, hb15, h⟩ := Option.bind_eq_some_iff.mp h
    refine fhW.callv hΓ mvX12_isHere ml_12_285 (t := 0) (ci := 12) (av := [.ref 9]) (rest := []) (r := (some (.int (fhb q7.1)))) (σ' := q7.2) (T_X12_isHere (E := fhEn Γ) (d := fhD Γ - 1) (by omega) 9 rfl σ hb15) (by omega) (by decide +kernel) rfl rfl rfl (Nat.le_of_ble_eq_true rfl) rfl ?_
    show fhW fhYM Γ 84 [(1, .int s0), (0, .ref 0)] [.int (fhb q7.1)] q7.2
    refine fhW.b_ne hΓ (tgt := 142) (show fhbk _ _ (.ifCond .ne (58)) _ = true by decide +kernel) (fun hc => ?_) (fun hc => ?_)
    · rw [if_pos hc] at h
      refine fhW.sub (lv' := [(0, .ref 0)]) [1] rfl ?_
      exact L_X12_isOwnHere_142 hΓ hd q7.2 _ h hk
    · rw [if_neg hc] at h
      refine fhW.blk fhPM fhLL hΓ [(.aload_n 0, 0), (.aload_n 0, 0), (.getfield 42, 0)] (pc' := 92) (lv' := [(1, .int s0), (0, .ref 0)]) (st' := [.ref 10, .ref 0]) (σ' := q7.2) (by decide +kernel) rfl rfl rfl ?_
      obtain ⟨q8, hb16, h⟩ := Option.bind_eq_some_iff.mp h
      refine fhW.callv hΓ mvX12_isHere ml_12_285 (t := 0) (ci := 12) (av := [.ref 10]) (rest := []) (r := (some (.int (fhb q8.1)))) (σ' := q8.2) (T_X12_isHere (E := fhEn Γ) (d := fhD Γ - 1) (by omega) 10 rfl q7.2 hb16) (by omega) (by decide +kernel) rfl rfl rfl (Nat.le_of_ble_eq_true rfl) rfl ?_
      show fhW fhYM Γ 95 [(1, .int s0), (0, .ref 0)] [.int (fhb q8.1)] q8.2
      refine fhW.b_ne hΓ (tgt := 142) (show fhbk _ _ (.ifCond .ne (47)) _ = true by decide +kernel) (fun hc => ?_) (fun hc => ?_)
      · rw [if_pos hc] at h
        refine fhW.sub (lv' := [(0, .ref 0)]) [1] rfl ?_
        exact L_X12_isOwnHere_142 hΓ hd q8.2 _ h hk
      · rw [if_neg hc] at h
        refine fhW.blk fhPM fhLL hΓ [(.aload_n 0, 0), (.aload_n 0, 0), (.getfield 45, 0)] (pc' := 103) (lv' := [(1, .int s0), (0, .ref 0)]) (st' := [.ref 11, .ref 0]) (σ' := q8.2) (by decide +kernel) rfl rfl rfl ?_
        obtain ⟨q9, hb17, h⟩ := Option.bind_eq_some_iff.mp h
        refine fhW.callv hΓ mvX12_isHere ml_12_285 (t := 0) (ci := 12) (av := [.ref 11]) (rest := []) (r := (some (.int (fhb q9.1)))) (σ' := q9.2) (T_X12_isHere (E := fhEn Γ) (d := fhD Γ - 1) (by omega) 11 rfl q8.2 hb17) (by omega) (by decide +kernel) rfl rfl rfl (Nat.le_of_ble_eq_true rfl) rfl ?_
        show fhW fhYM Γ 106 [(1, .int s0), (0, .ref 0)] [.int (fhb q9.1)] q9.2
        refine fhW.b_ne hΓ (tgt := 142) (show fhbk _ _ (.ifCond .ne (36)) _ = true by decide +kernel) (fun hc => ?_) (fun hc => ?_)
        · rw [if_pos hc] at h
          refine fhW.sub (lv' := [(0, .ref 0)]) [1] rfl ?_
          exact L_X12_isOwnHere_142 hΓ hd q9.2 _ h hk
        · rw [if_neg hc] at h
          refine fhW.blk fhPM fhLL hΓ [(.aload_n 0, 0), (.aload_n 0, 0), (.getfield 48, 0)] (pc' := 114) (lv' := [(1, .int s0), (0, .ref 0)]) (st' := [.ref 12, .ref 0]) (σ' := q9.2) (by decide +kernel) rfl rfl rfl ?_
          obtain ⟨q10, hb18, h⟩ := Option.bind_eq_some_iff.mp h
          refine fhW.callv hΓ mvX12_isHere ml_12_285 (t := 0) (ci := 12) (av := [.ref 12]) (rest := []) (r := (some (.int (fhb q10.1)))) (σ' := q10.2) (T_X12_isHere (E := fhEn Γ) (d := fhD Γ - 1) (by omega) 12 rfl q9.2 hb18) (by omega) (by decide +kernel) rfl rfl rfl (Nat.le_of_ble_eq_true rfl) rfl ?_
          show fhW fhYM Γ 117 [(1, .int s0), (0, .ref 0)] [.int (fhb q10.1)] q10.2
          refine fhW.b_ne hΓ (tgt := 142) (show fhbk _ _ (.ifCond .ne (25)) _ = true by decide +kernel) (fun hc => ?_) (fun hc => ?_)
          · rw [if_pos hc] at h
            refine fhW.sub (lv' := [(0, .ref 0)]) [1] rfl ?_
            exact L_X12_isOwnHere_142 hΓ hd q10.2 _ h hk
          · rw [if_neg hc] at h
            refine fhW.blk fhPM fhLL hΓ [(.aload_n 0, 0), (.aload_n 0, 0), (.getfield 51, 0)] (pc' := 125) (lv' := [(1, .int s0), (0, .ref 0)]) (st' := [.ref 13, .ref 0]) (σ' := q10.2) (by decide +kernel) rfl rfl rfl ?_
            obtain ⟨q11, hb19, h⟩ := Option.bind_eq_some_iff.mp h
            refine fhW.callv hΓ mvX12_isHere ml_12_285 (t := 0) (ci := 12) (av := [.ref 13]) (rest := []) (r := (some (.int (fhb q11.1)))) (σ' := q11.2) (T_X12_isHere (E := fhEn Γ) (d := fhD Γ - 1) (by omega) 13 rfl q10.2 hb19) (by omega) (by decide +kernel) rfl rfl rfl (Nat.le_of_ble_eq_true rfl) rfl ?_
            show fhW fhYM Γ 128 [(1, .int s0), (0, .ref 0)] [.int (fhb q11.1)] q11.2
            refine fhW.b_ne hΓ (tgt := 142) (show fhbk _ _ (.ifCond .ne (14)) _ = true by decide +kernel) (fun hc => ?_) (fun hc => ?_)
            · rw [if_pos hc] at h
              refine fhW.sub (lv' := [(0, .ref 0)]) [1] rfl ?_
              exact L_X12_isOwnHere_142 hΓ hd q11.2 _ h hk
            · rw [if_neg hc] at h
              refine fhW.blk fhPM fhLL hΓ [(.aload_n 0, 0), (.aload_n 0, 0), (.getfield 54, 0)] (pc' := 136) (lv' := [(1, .int s0), (0, .ref 0)]) (st' := [.ref 14, .ref 0]) (σ' := q11.2) (by decide +kernel) rfl rfl rfl ?_
              obtain ⟨q12, hb20, h⟩ := Option.bind_eq_some_iff.mp h
              refine fhW.callv hΓ mvX12_isHere ml_12_285 (t := 0) (ci := 12) (av := [.ref 14]) (rest := []) (r := (some (.int (fhb q12.1)))) (σ' := q12.2) (T_X12_isHere (E := fhEn Γ) (d := fhD Γ - 1) (by omega) 14 rfl q11.2 hb20) (by omega) (by decide +kernel) rfl rfl rfl (Nat.le_of_ble_eq_true rfl) rfl ?_
              show fhW fhYM Γ 139 [(1, .int s0), (0, .ref 0)] [.int (fhb q12.1)] q12.2
              refine fhW.b_eq hΓ (tgt := 146) (show fhbk _ _ (.ifCond .eq (7)) _ = true by decide +kernel) (fun hc => ?_) (fun hc => ?_)
              · rw [if_neg hc] at h
                refine fhW.blk fhPM fhLL hΓ [(.iconst 0, 0)] (pc' := 147) (lv' := [(1, .int s0), (0, .ref 0)]) (st' := [.int (0 : Int32)]) (σ' := q12.2) (by decide +kernel) rfl rfl rfl ?_
                refine fhW.sub (lv' := [(0, .ref 0)]) [1] rfl ?_
                exact L_X12_isOwnHere_147 hΓ hd (0 : Int32) q12.2 _ h hk
              · rw [if_pos hc] at h
                refine fhW.sub (lv' := [(0, .ref 0)]) [1] rfl ?_
                exact L_X12_isOwnHere_142 hΓ hd q12.2 _ h hk
set_option maxRecDepth 100000 in
set_option maxHeartbeats 4000000 in
theorem L_X12_isOwnHere_66 {Γ : fhX} (hΓ : fhOk fhYM 12 cX12_isOwnHere 2 (some .boolean) Γ) (hd : 2 ≤ fhD Γ)   (σ : fhM) (o : Bool × fhM) (h : f_X12_isOwnHere_66 σ = some o) (hk : (fun o => fhRet Γ (some (.int (fhb o.1))) o.2) o) : fhW fhYM Γ 66 [(0, .ref 0)] [] σ := by
  unfold f_X12_isOwnHere_66 at h
  refine fhW.blk fhPM fhLL hΓ [(.iconst 1, 1)] (pc' := 67) (lv' := [(0, .ref 0)]) (st' := [.int (1 : Int32)]) (σ' := σ) (by decide +kernel) rfl rfl rfl ?_
  refine fhW.goto hΓ (off := 4) (tgt := 71) (by decide +kernel) ?_
  refine fhW.sub (lv' := [(0, .ref 0)]) [0] rfl ?_
  exact L_X12_isOwnHere_71 hΓ hd (1 : Int32) σ _ h hk
set_option maxRecDepth 100000 in
set_option maxHeartbeats 4000000 in
theorem L_X12_isOwnHere_E {Γ : fhX} (hΓ : fhOk fhYM 12 cX12_isOwnHere 2 (some .boolean) Γ) (hd : 2 ≤ fhD Γ)   (σ : fhM) (o : Bool × fhM) (h : f_X12_isOwnHere σ = some o) (hk : (fun o => fhRet Γ (some (.int (fhb o.1))) o.2) o) : fhW fhYM Γ 0 [(0, .ref 0)] [] σ := by
  unfold f_X12_isOwnHere at h
  refine fhW.blk fhPM fhLL hΓ [(.aload_n 0, 0), (.aload_n 0, 0), (.getfield 20, 0)] (pc' := 5) (lv' := [(0, .ref 0)]) (st' := [.ref 3, .ref 0]) (σ' := σ) (by decide +kernel) rfl rfl rfl ?_
  obtain ⟨q1, hb21, h⟩ := Option.bind_eq_some_iff.mp h
  refine fhW.callv hΓ mvX12_isHere ml_12_285 (t := 0) (ci := 12) (av := [.ref 3]) (rest := []) (r := (some (.int (fhb q1.1)))) (σ' := q1.2) (T_X12_isHere (E := fhEn Γ) (d := fhD Γ - 1) (by omega) 3 rfl σ hb21) (by omega) (by decide +kernel) rfl rfl rfl (Nat.le_of_ble_eq_true rfl) rfl ?_
  show fhW fhYM Γ 8 [(0, .ref 0)] [.int (fhb q1.1)] q1.2
  refine fhW.b_ne hΓ (tgt := 66) (show fhbk _ _ (.ifCond .ne (58)) _ = true by decide +kernel) (fun hc => ?_) (fun hc => ?_)
  · rw [if_pos hc] at h
    refine fhW.sub (lv' := [(0, .ref 0)]) [0] rfl ?_
    exact L_X12_isOwnHere_66 hΓ hd q1.2 _ h hk
  · rw [if_neg hc] at h
    refine fhW.blk fhPM fhLL hΓ [(.aload_n 0, 0), (.aload_n 0, 0), (.getfield 24, 0)] (pc' := 16) (lv' := [(0, .ref 0)]) (st' := [.ref 4, .ref 0]) (σ' := q1.2) (by decide +kernel) rfl rfl rfl ?_
    obtain ⟨q2, hb22, h⟩ := Option.bind_eq_some_iff.mp h
    refine fhW.callv hΓ mvX12_isHere ml_12_285 (t := 0) (ci := 12) (av := [.ref 4]) (rest := []) (r := (some (.int (fhb q2.1)))) (σ' := q2.2) (T_X12_isHere (E := fhEn Γ) (d := fhD Γ - 1) (by omega) 4 rfl q1.2 hb22) (by omega) (by decide +kernel) rfl rfl rfl (Nat.le_of_ble_eq_true rfl) rfl ?_
    show fhW fhYM Γ 19 [(0, .ref 0)] [.int (fhb q2.1)] q2.2
    refine fhW.b_ne hΓ (tgt := 66) (show fhbk _ _ (.ifCond .ne (47)) _ = true by decide +kernel) (fun hc => ?_) (fun hc => ?_)
    · rw [if_pos hc] at h
      refine fhW.sub (lv' := [(0, .ref 0)]) [0] rfl ?_
      exact L_X12_isOwnHere_66 hΓ hd q2.2 _ h hk
    · rw [if_neg hc] at h
      refine fhW.blk fhPM fhLL hΓ [(.aload_n 0, 0), (.aload_n 0, 0), (.getfield 27, 0)] (pc' := 27) (lv' := [(0, .ref 0)]) (st' := [.ref 5, .ref 0]) (σ' := q2.2) (by decide +kernel) rfl rfl rfl ?_
      obtain ⟨q3, hb23, h⟩ := Option.bind_eq_some_iff.mp h
      refine fhW.callv hΓ mvX12_isHere ml_12_285 (t := 0) (ci := 12) (av := [.ref 5]) (rest := []) (r := (some (.int (fhb q3.1)))) (σ' := q3.2) (T_X12_isHere (E := fhEn Γ) (d := fhD Γ - 1) (by omega) 5 rfl q2.2 hb23) (by omega) (by decide +kernel) rfl rfl rfl (Nat.le_of_ble_eq_true rfl) rfl ?_
      show fhW fhYM Γ 30 [(0, .ref 0)] [.int (fhb q3.1)] q3.2
      refine fhW.b_ne hΓ (tgt := 66) (show fhbk _ _ (.ifCond .ne (36)) _ = true by decide +kernel) (fun hc => ?_) (fun hc => ?_)
      · rw [if_pos hc] at h
        refine fhW.sub (lv' := [(0, .ref 0)]) [0] rfl ?_
        exact L_X12_isOwnHere_66 hΓ hd q3.2 _ h hk
      · rw [if_neg hc] at h
        refine fhW.blk fhPM fhLL hΓ [(.aload_n 0, 0), (.aload_n 0, 0), (.getfield 30, 0)] (pc' := 38) (lv' := [(0, .ref 0)]) (st' := [.ref 6, .ref 0]) (σ' := q3.2) (by decide +kernel) rfl rfl rfl ?_
        obtain ⟨q4, hb24, h⟩ := Option.bind_eq_some_iff.mp h
        refine fhW.callv hΓ mvX12_isHere ml_12_285 (t := 0) (ci := 12) (av := [.ref 6]) (rest := []) (r := (some (.int (fhb q4.1)))) (σ' := q4.2) (T_X12_isHere (E := fhEn Γ) (d := fhD Γ - 1) (by omega) 6 rfl q3.2 hb24) (by omega) (by decide +kernel) rfl rfl rfl (Nat.le_of_ble_eq_true rfl) rfl ?_
        show fhW fhYM Γ 41 [(0, .ref 0)] [.int (fhb q4.1)] q4.2
        refine fhW.b_ne hΓ (tgt := 66) (show fhbk _ _ (.ifCond .ne (25)) _ = true by decide +kernel) (fun hc => ?_) (fun hc => ?_)
        · rw [if_pos hc] at h
          refine fhW.sub (lv' := [(0, .ref 0)]) [0] rfl ?_
          exact L_X12_isOwnHere_66 hΓ hd q4.2 _ h hk
        · rw [if_neg hc] at h
          refine fhW.blk fhPM fhLL hΓ [(.aload_n 0, 0), (.aload_n 0, 0), (.getfield 33, 0)] (pc' := 49) (lv' := [(0, .ref 0)]) (st' := [.ref 7, .ref 0]) (σ' := q4.2) (by decide +kernel) rfl rfl rfl ?_
          obtain ⟨q5, hb25, h⟩ := Option.bind_eq_some_iff.mp h
          refine fhW.callv hΓ mvX12_isHere ml_12_285 (t := 0) (ci := 12) (av := [.ref 7]) (rest := []) (r := (some (.int (fhb q5.1)))) (σ' := q5.2) (T_X12_isHere (E := fhEn Γ) (d := fhD Γ - 1) (by omega) 7 rfl q4.2 hb25) (by omega) (by decide +kernel) rfl rfl rfl (Nat.le_of_ble_eq_true rfl) rfl ?_
          show fhW fhYM Γ 52 [(0, .ref 0)] [.int (fhb q5.1)] q5.2
          refine fhW.b_ne hΓ (tgt := 66) (show fhbk _ _ (.ifCond .ne (14)) _ = true by decide +kernel) (fun hc => ?_) (fun hc => ?_)
          · rw [if_pos hc] at h
            refine fhW.sub (lv' := [(0, .ref 0)]) [0] rfl ?_
            exact L_X12_isOwnHere_66 hΓ hd q5.2 _ h hk
          · rw [if_neg hc] at h
            refine fhW.blk fhPM fhLL hΓ [(.aload_n 0, 0), (.aload_n 0, 0), (.getfield 36, 0)] (pc' := 60) (lv' := [(0, .ref 0)]) (st' := [.ref 8, .ref 0]) (σ' := q5.2) (by decide +kernel) rfl rfl rfl ?_
            obtain ⟨q6, hb26, h⟩ := Option.bind_eq_some_iff.mp h
            refine fhW.callv hΓ mvX12_isHere ml_12_285 (t := 0) (ci := 12) (av := [.ref 8]) (rest := []) (r := (some (.int (fhb q6.1)))) (σ' := q6.2) (T_X12_isHere (E := fhEn Γ) (d := fhD Γ - 1) (by omega) 8 rfl q5.2 hb26) (by omega) (by decide +kernel) rfl rfl rfl (Nat.le_of_ble_eq_true rfl) rfl ?_
            show fhW fhYM Γ 63 [(0, .ref 0)] [.int (fhb q6.1)] q6.2
            refine fhW.b_eq hΓ (tgt := 70) (show fhbk _ _ (.ifCond .eq (7)) _ = true by decide +kernel) (fun hc => ?_) (fun hc => ?_)
            · rw [if_neg hc] at h
              refine fhW.blk fhPM fhLL hΓ [(.iconst 0, 0)] (pc' := 71) (lv' := [(0, .ref 0)]) (st' := [.int (0 : Int32)]) (σ' := q6.2) (by decide +kernel) rfl rfl rfl ?_
              refine fhW.sub (lv' := [(0, .ref 0)]) [0] rfl ?_
              exact L_X12_isOwnHere_71 hΓ hd (0 : Int32) q6.2 _ h hk
            · rw [if_pos hc] at h
              refine fhW.sub (lv' := [(0, .ref 0)]) [0] rfl ?_
              exact L_X12_isOwnHere_66 hΓ hd q6.2 _ h hk
set_option maxRecDepth 100000 in
theorem T_X12_isOwnHere {E : fhE} {d : Nat} (hd : 2 ≤ d)   (σ : fhM) {o : Bool × fhM} (h : f_X12_isOwnHere σ = some o) : fhC fhYM E d miX12_isOwnHere [.ref 0] σ (some (.int (fhb o.1))) o.2 := by
  refine fhC.of (y := yX12_isOwnHere) (cc := cX12_isOwnHere) (nL := 2) (ret := (some .boolean)) 12 rfl (by decide +kernel) (Nat.le_of_ble_eq_true rfl) ?_
  intro Γ hΓ hR hD hEn
  subst hD; subst hEn
  exact L_X12_isOwnHere_E hΓ hd   σ _ h hR
set_option maxRecDepth 100000 in
set_option maxHeartbeats 4000000 in
theorem L_X12_name_37 {Γ : fhX} (hΓ : fhOk fhYM 12 cX12_name 3 (some .long) Γ) (hd : 3 ≤ fhD Γ)   (σ : fhM) (o : Int64 × fhM) (h : f_X12_name_37 σ = some o) (hk : (fun o => fhRet Γ (some (.long o.1)) o.2) o) : fhW fhYM Γ 37 [(0, .ref 0)] [] σ := by
  unfold f_X12_name_37 at h
  refine fhW.blk fhPM fhLL hΓ [(.aload_n 0, 0), (.iconst 1, 1), (.aload_n 0, 0), (.getfield 268, 0)] (pc' := 43) (lv' := [(0, .ref 0)]) (st' := [.int (σ.1 0 2), .int (1 : Int32), .ref 0]) (σ' := σ) (by decide +kernel) rfl rfl rfl ?_
  refine fhW.callv hΓ mvX12_fail ml_12_292 (t := 0) (ci := 12) (av := [.int (1 : Int32), .int (σ.1 0 2)]) (rest := []) (r := none) (σ' := (f_X12_fail (1 : Int32) (σ.1 0 2) σ)) (T_X12_fail (E := fhEn Γ) (d := fhD Γ - 1) (by omega) (1 : Int32) (σ.1 0 2) σ) (by omega) (by decide +kernel) rfl rfl rfl (Nat.le_of_ble_eq_true rfl) rfl ?_
  show fhW fhYM Γ 46 [(0, .ref 0)] [] (f_X12_fail (1 : Int32) (σ.1 0 2) σ)
  obtain ⟨q3, e1, h⟩ := fhlet_elim h
  rw [← e1]
  refine fhW.blk fhPM fhLL hΓ [(.lconst 0, 0)] (pc' := 47) (lv' := [(0, .ref 0)]) (st' := [.long (0 : Int64)]) (σ' := q3) (by decide +kernel) rfl rfl rfl ?_
  have e9 := Option.some.inj h
  subst e9
  exact fhW.lret hΓ (by decide +kernel) hk
set_option maxRecDepth 100000 in
set_option maxHeartbeats 4000000 in
theorem L_X12_name_145 {Γ : fhX} (hΓ : fhOk fhYM 12 cX12_name 3 (some .long) Γ) (hd : 3 ≤ fhD Γ) (v1 : Int64)  (σ : fhM) (o : Int64 × fhM) (h : f_X12_name_145 v1 σ = some o) (hk : (fun o => fhRet Γ (some (.long o.1)) o.2) o) : fhW fhYM Γ 145 [(0, .ref 0), (1, .long v1)] [] σ := by
  unfold f_X12_name_145 at h
  refine fhW.blk fhPM fhLL hΓ [(.aload_n 0, 0), (.aload_n 0, 0), (.getfield 268, 0), (.putfield 282, 0), (.lload_n 1, 0)] (pc' := 154) (lv' := [(0, .ref 0), (1, .long v1)]) (st' := [.long v1]) (σ' := (fhI σ 0 4 (σ.1 0 2))) (by decide +kernel) rfl rfl rfl ?_
  have e9 := Option.some.inj h
  subst e9
  exact fhW.lret hΓ (by decide +kernel) hk
set_option maxRecDepth 100000 in
set_option maxHeartbeats 4000000 in
theorem L_X12_name_58 {Γ : fhX} (hΓ : fhOk fhYM 12 cX12_name 3 (some .long) Γ) (hd : 3 ≤ fhD Γ) (v1 : Int64)  (σ : fhM) (o : (Int64 × fhM) ⊕ (Int64 × fhM)) (h : f_X12_name_58 v1 σ = some o) (hk : (fhK (fun x => fhW fhYM Γ 58 [(0, .ref 0), (1, .long x.1)] [] x.2) (fun o => fhRet Γ (some (.long o.1)) o.2)) o) : fhW fhYM Γ 58 [(0, .ref 0), (1, .long v1)] [] σ := by
  unfold f_X12_name_58 at h
  refine fhW.blk fhPM fhLL hΓ [(.aload_n 0, 0), (.getfield 268, 0), (.aload_n 0, 0), (.getfield 271, 0)] (pc' := 66) (lv' := [(0, .ref 0), (1, .long v1)]) (st' := [.int (σ.1 0 3), .int (σ.1 0 2)]) (σ' := σ) (by decide +kernel) rfl rfl rfl ?_
  refine fhW.i_ge hΓ (tgt := 145) (show fhbk _ _ (.if_icmp .ge (79)) _ = true by decide +kernel) (fun hc => ?_) (fun hc => ?_)
  · rw [if_pos hc] at h
    refine fhW.sub (lv' := [(0, .ref 0), (1, .long v1)]) [0, 1] rfl ?_
    obtain ⟨z1, hz, e2⟩ := Option.map_eq_some_iff.mp h
    clear h
    subst e2
    have h := hz
    have hk : (fun o => fhRet Γ (some (.long o.1)) o.2) z1 := hk
    exact L_X12_name_145 hΓ hd v1 σ _ h hk
  · rw [if_neg hc] at h
    obtain ⟨hg1, h⟩ := fhif h
    refine fhW.blk fhPM fhLL hΓ [(.aload_n 0, 0), (.getfield 7, 0), (.aload_n 0, 0), (.getfield 268, 0), (.iaload, 0)] (pc' := 78) (lv' := [(0, .ref 0), (1, .long v1)]) (st' := [.int (σ.1 1 (fhix (σ.1 0 2)))]) (σ' := σ) (by decide +kernel) rfl rfl hg1 ?_
    refine fhW.calls hΓ msX12_isLetter ml_12_278 (av := [.int (σ.1 1 (fhix (σ.1 0 2)))]) (rest := []) (r := (some (.int (fhb (f_X12_isLetter (σ.1 1 (fhix (σ.1 0 2))) σ))))) (σ' := σ) (T_X12_isLetter (E := fhEn Γ) (d := fhD Γ - 1) (by omega) (σ.1 1 (fhix (σ.1 0 2))) σ) (by omega) (by decide +kernel) rfl (Nat.le_of_ble_eq_true rfl) rfl ?_
    show fhW fhYM Γ 81 [(0, .ref 0), (1, .long v1)] [.int (fhb (f_X12_isLetter (σ.1 1 (fhix (σ.1 0 2))) σ))] σ
    refine fhW.b_eq hΓ (tgt := 145) (show fhbk _ _ (.ifCond .eq (64)) _ = true by decide +kernel) (fun hc => ?_) (fun hc => ?_)
    · rw [if_neg hc] at h
      refine fhW.sub (lv' := [(0, .ref 0), (1, .long v1)]) [0, 1] rfl ?_
      obtain ⟨z2, hz, e3⟩ := Option.map_eq_some_iff.mp h
      clear h
      subst e3
      have h := hz
      have hk : (fun o => fhRet Γ (some (.long o.1)) o.2) z2 := hk
      exact L_X12_name_145 hΓ hd v1 σ _ h hk
    · rw [if_pos hc] at h
      refine fhW.blk fhPM fhLL hΓ [(.aload_n 0, 0), (.getfield 268, 0), (.aload_n 0, 0), (.getfield 313, 0), (.isub, 0), (.bipush 6, 6)] (pc' := 95) (lv' := [(0, .ref 0), (1, .long v1)]) (st' := [.int (6 : Int32), .int ((σ.1 0 2) - (σ.1 0 37))]) (σ' := σ) (by decide +kernel) rfl rfl rfl ?_
      refine fhW.i_ne hΓ (tgt := 109) (show fhbk _ _ (.if_icmp .ne (14)) _ = true by decide +kernel) (fun hc => ?_) (fun hc => ?_)
      · rw [if_neg hc] at h
        obtain ⟨hg2, h⟩ := fhif h
        refine fhW.blk fhPM fhLL hΓ [(.ldc2_w 316, 0), (.lload_n 1, 0), (.lmul, 0), (.aload_n 0, 0), (.getfield 7, 0), (.aload_n 0, 0), (.getfield 268, 0), (.iaload, 0), (.i2l, 0), (.ladd, 0), (.ldc2_w 318, 0), (.lsub, 0), (.lconst 1, 0), (.ladd, 0), (.lstore_n 1, 0)] (pc' := 132) (lv' := [(1, .long (((((27 : Int64) * v1) + (Int32.toInt64 (σ.1 1 (fhix (σ.1 0 2))))) - (97 : Int64)) + (1 : Int64))), (0, .ref 0)]) (st' := []) (σ' := σ) (by decide +kernel) rfl rfl hg2 ?_
        obtain ⟨w1_1, e4, h⟩ := fhlet_elim h
        rw [← e4]
        refine fhW.blk fhPM fhLL hΓ [(.aload_n 0, 0), (.dup, 0), (.getfield 268, 0), (.iconst 1, 1), (.iadd, 0), (.putfield 268, 0)] (pc' := 142) (lv' := [(1, .long w1_1), (0, .ref 0)]) (st' := []) (σ' := (fhI σ 0 2 ((σ.1 0 2) + (1 : Int32)))) (by decide +kernel) rfl rfl rfl ?_
        refine fhW.goto hΓ (off := (-84)) (tgt := 58) (by decide +kernel) ?_
        refine fhW.sub (lv' := [(0, .ref 0), (1, .long w1_1)]) [1, 0] rfl ?_
        have e9 := Option.some.inj h
        subst e9
        exact hk
      · rw [if_pos hc] at h
        refine fhW.blk fhPM fhLL hΓ [(.aload_n 0, 0), (.iconst 1, 1), (.aload_n 0, 0), (.getfield 268, 0)] (pc' := 104) (lv' := [(0, .ref 0), (1, .long v1)]) (st' := [.int (σ.1 0 2), .int (1 : Int32), .ref 0]) (σ' := σ) (by decide +kernel) rfl rfl rfl ?_
        refine fhW.callv hΓ mvX12_fail ml_12_292 (t := 0) (ci := 12) (av := [.int (1 : Int32), .int (σ.1 0 2)]) (rest := []) (r := none) (σ' := (f_X12_fail (1 : Int32) (σ.1 0 2) σ)) (T_X12_fail (E := fhEn Γ) (d := fhD Γ - 1) (by omega) (1 : Int32) (σ.1 0 2) σ) (by omega) (by decide +kernel) rfl rfl rfl (Nat.le_of_ble_eq_true rfl) rfl ?_
        show fhW fhYM Γ 107 [(0, .ref 0), (1, .long v1)] [] (f_X12_fail (1 : Int32) (σ.1 0 2) σ)
        obtain ⟨q4, e5, h⟩ := fhlet_elim h
        rw [← e5]
        refine fhW.blk fhPM fhLL hΓ [(.lconst 0, 0)] (pc' := 108) (lv' := [(0, .ref 0), (1, .long v1)]) (st' := [.long (0 : Int64)]) (σ' := q4) (by decide +kernel) rfl rfl rfl ?_
        have e9 := Option.some.inj h
        subst e9
        exact fhW.lret hΓ (by decide +kernel) hk
set_option maxRecDepth 100000 in
set_option maxHeartbeats 4000000 in
theorem L_X12_name_E {Γ : fhX} (hΓ : fhOk fhYM 12 cX12_name 3 (some .long) Γ) (hd : 3 ≤ fhD Γ)   (σ : fhM) (o : Int64 × fhM) (h : f_X12_name σ = some o) (hk : (fun o => fhRet Γ (some (.long o.1)) o.2) o) : fhW fhYM Γ 0 [(0, .ref 0)] [] σ := by
  unfold f_X12_name at h
  refine fhW.blk fhPM fhLL hΓ [(.aload_n 0, 0), (.getfield 262, 0)] (pc' := 4) (lv' := [(0, .ref 0)]) (st' := [.int (σ.1 0 5)]) (σ' := σ) (by decide +kernel) rfl rfl rfl ?_
  refine fhW.z_eq hΓ (tgt := 9) (show fhbk _ _ (.ifCond .eq (5)) _ = true by decide +kernel) (fun hc => ?_) (fun hc => ?_)
  · rw [if_pos hc] at h
    refine fhW.blk fhPM fhLL hΓ [(.aload_n 0, 0)] (pc' := 10) (lv' := [(0, .ref 0)]) (st' := [.ref 0]) (σ' := σ) (by decide +kernel) rfl rfl rfl ?_
    obtain ⟨q1, hb1, h⟩ := Option.bind_eq_some_iff.mp h
    refine fhW.callv hΓ mvX12_look ml_12_274 (t := 0) (ci := 12) (av := []) (rest := []) (r := (some (.int q1.1))) (σ' := q1.2) (T_X12_look (E := fhEn Γ) (d := fhD Γ - 1) (by omega) σ hb1) (by omega) (by decide +kernel) rfl rfl rfl (Nat.le_of_ble_eq_true rfl) rfl ?_
    show fhW fhYM Γ 13 [(0, .ref 0)] [.int q1.1] q1.2
    refine fhW.calls hΓ msX12_isLetter ml_12_278 (av := [.int q1.1]) (rest := []) (r := (some (.int (fhb (f_X12_isLetter q1.1 q1.2))))) (σ' := q1.2) (T_X12_isLetter (E := fhEn Γ) (d := fhD Γ - 1) (by omega) q1.1 q1.2) (by omega) (by decide +kernel) rfl (Nat.le_of_ble_eq_true rfl) rfl ?_
    show fhW fhYM Γ 16 [(0, .ref 0)] [.int (fhb (f_X12_isLetter q1.1 q1.2))] q1.2
    refine fhW.b_eq hΓ (tgt := 37) (show fhbk _ _ (.ifCond .eq (21)) _ = true by decide +kernel) (fun hc => ?_) (fun hc => ?_)
    · rw [if_neg hc] at h
      refine fhW.sub (lv' := [(0, .ref 0)]) [0] rfl ?_
      exact L_X12_name_37 hΓ hd q1.2 _ h hk
    · rw [if_pos hc] at h
      refine fhW.blk fhPM fhLL hΓ [(.aload_n 0, 0), (.getfield 268, 0), (.aload_n 0, 0), (.getfield 282, 0)] (pc' := 27) (lv' := [(0, .ref 0)]) (st' := [.int (q1.2.1 0 4), .int (q1.2.1 0 2)]) (σ' := q1.2) (by decide +kernel) rfl rfl rfl ?_
      refine fhW.i_eq hΓ (tgt := 37) (show fhbk _ _ (.if_icmp .eq (10)) _ = true by decide +kernel) (fun hc => ?_) (fun hc => ?_)
      · rw [if_pos hc] at h
        refine fhW.sub (lv' := [(0, .ref 0)]) [0] rfl ?_
        exact L_X12_name_37 hΓ hd q1.2 _ h hk
      · rw [if_neg hc] at h
        refine fhW.blk fhPM fhLL hΓ [(.aload_n 0, 0)] (pc' := 31) (lv' := [(0, .ref 0)]) (st' := [.ref 0]) (σ' := q1.2) (by decide +kernel) rfl rfl rfl ?_
        obtain ⟨q2, hb2, h⟩ := Option.bind_eq_some_iff.mp h
        refine fhW.callv hΓ mvX12_isOwnHere ml_12_309 (t := 0) (ci := 12) (av := []) (rest := []) (r := (some (.int (fhb q2.1)))) (σ' := q2.2) (T_X12_isOwnHere (E := fhEn Γ) (d := fhD Γ - 1) (by omega) q1.2 hb2) (by omega) (by decide +kernel) rfl rfl rfl (Nat.le_of_ble_eq_true rfl) rfl ?_
        show fhW fhYM Γ 34 [(0, .ref 0)] [.int (fhb q2.1)] q2.2
        refine fhW.b_eq hΓ (tgt := 48) (show fhbk _ _ (.ifCond .eq (14)) _ = true by decide +kernel) (fun hc => ?_) (fun hc => ?_)
        · rw [if_neg hc] at h
          refine fhW.blk fhPM fhLL hΓ [(.aload_n 0, 0), (.aload_n 0, 0), (.getfield 268, 0), (.putfield 313, 0), (.lconst 0, 0), (.lstore_n 1, 0)] (pc' := 58) (lv' := [(1, .long (0 : Int64)), (0, .ref 0)]) (st' := []) (σ' := (fhI q2.2 0 37 (q2.2.1 0 2))) (by decide +kernel) rfl rfl rfl ?_
          refine fhW.sub (lv' := [(0, .ref 0), (1, .long (0 : Int64))]) [1, 0] rfl ?_
          exact fhlp_ok (W := (fun x => fhW fhYM Γ 58 [(0, .ref 0), (1, .long x.1)] [] x.2)) (B := (fun o => fhRet Γ (some (.long o.1)) o.2)) (fun x o h hk => L_X12_name_58 hΓ hd x.1 x.2 o h hk) ((0 : Int64), (fhI q2.2 0 37 (q2.2.1 0 2))) _ h hk
        · rw [if_pos hc] at h
          refine fhW.sub (lv' := [(0, .ref 0)]) [0] rfl ?_
          exact L_X12_name_37 hΓ hd q2.2 _ h hk
  · rw [if_neg hc] at h
    refine fhW.blk fhPM fhLL hΓ [(.lconst 0, 0)] (pc' := 8) (lv' := [(0, .ref 0)]) (st' := [.long (0 : Int64)]) (σ' := σ) (by decide +kernel) rfl rfl rfl ?_
    have e9 := Option.some.inj h
    subst e9
    exact fhW.lret hΓ (by decide +kernel) hk
set_option maxRecDepth 100000 in
theorem T_X12_name {E : fhE} {d : Nat} (hd : 3 ≤ d)   (σ : fhM) {o : Int64 × fhM} (h : f_X12_name σ = some o) : fhC fhYM E d miX12_name [.ref 0] σ (some (.long o.1)) o.2 := by
  refine fhC.of (y := yX12_name) (cc := cX12_name) (nL := 3) (ret := (some .long)) 12 rfl (by decide +kernel) (Nat.le_of_ble_eq_true rfl) ?_
  intro Γ hΓ hR hD hEn
  subst hD; subst hEn
  exact L_X12_name_E hΓ hd   σ _ h hR
set_option maxRecDepth 100000 in
set_option maxHeartbeats 4000000 in
theorem L_X12_guestHere_97 {Γ : fhX} (hΓ : fhOk fhYM 12 cX12_guestHere 5 (some .int) Γ) (hd : 1 ≤ fhD Γ) (v1 : Int32) (v2 : Int64) (v4 : Int32)  (σ : fhM) (o : (Int32) ⊕ (Int32 × fhM)) (h : f_X12_guestHere_97 v1 v2 v4 σ = some o) (hk : (fhK (fun x => fhW fhYM Γ 97 [(0, .ref 0), (1, .int v1), (2, .long v2), (4, .int x)] [] σ) (fun o => fhRet Γ (some (.int o.1)) o.2)) o) : fhW fhYM Γ 97 [(0, .ref 0), (1, .int v1), (2, .long v2), (4, .int v4)] [] σ := by
  unfold f_X12_guestHere_97 at h
  refine fhW.blk fhPM fhLL hΓ [(.iload 4, 0), (.aload_n 0, 0), (.getfield 99, 0), (.iconst 1, 1), (.iaload, 0)] (pc' := 105) (lv' := [(0, .ref 0), (1, .int v1), (2, .long v2), (4, .int v4)]) (st' := [.int (σ.1 29 1), .int v4]) (σ' := σ) (by decide +kernel) rfl rfl rfl ?_
  refine fhW.i_ge hΓ (tgt := 153) (show fhbk _ _ (.if_icmp .ge (48)) _ = true by decide +kernel) (fun hc => ?_) (fun hc => ?_)
  · rw [if_pos hc] at h
    refine fhW.blk fhPM fhLL hΓ [(.iconst (-1), -1)] (pc' := 154) (lv' := [(0, .ref 0), (1, .int v1), (2, .long v2), (4, .int v4)]) (st' := [.int (-1 : Int32)]) (σ' := σ) (by decide +kernel) rfl rfl rfl ?_
    have e9 := Option.some.inj h
    subst e9
    exact fhW.iret hΓ (by decide +kernel) hk
  · rw [if_neg hc] at h
    refine fhW.blk fhPM fhLL hΓ [(.iload_n 1, 0), (.aload_n 0, 0), (.getfield 268, 0), (.isub, 0), (.bipush 7, 7)] (pc' := 116) (lv' := [(0, .ref 0), (1, .int v1), (2, .long v2), (4, .int v4)]) (st' := [.int (7 : Int32), .int (v1 - (σ.1 0 2))]) (σ' := σ) (by decide +kernel) rfl rfl rfl ?_
    refine fhW.i_ge hΓ (tgt := 153) (show fhbk _ _ (.if_icmp .ge (37)) _ = true by decide +kernel) (fun hc => ?_) (fun hc => ?_)
    · rw [if_pos hc] at h
      refine fhW.blk fhPM fhLL hΓ [(.iconst (-1), -1)] (pc' := 154) (lv' := [(0, .ref 0), (1, .int v1), (2, .long v2), (4, .int v4)]) (st' := [.int (-1 : Int32)]) (σ' := σ) (by decide +kernel) rfl rfl rfl ?_
      have e9 := Option.some.inj h
      subst e9
      exact fhW.iret hΓ (by decide +kernel) hk
    · rw [if_neg hc] at h
      obtain ⟨hg1, h⟩ := fhif h
      refine fhW.blk fhPM fhLL hΓ [(.aload_n 0, 0), (.getfield 102, 0), (.iload 4, 0), (.laload, 0), (.lload_n 2, 0), (.lcmp, 0)] (pc' := 128) (lv' := [(0, .ref 0), (1, .int v1), (2, .long v2), (4, .int v4)]) (st' := [.int (lg_cmp (σ.2.1 30 (fhix v4)) v2)]) (σ' := σ) (by decide +kernel) rfl rfl hg1 ?_
      refine fhW.z_eq hΓ (tgt := 134) (show fhbk _ _ (.ifCond .eq (6)) _ = true by decide +kernel) (fun hc => ?_) (fun hc => ?_)
      · rw [if_pos hc] at h
        refine fhW.blk fhPM fhLL hΓ [(.aload_n 0, 0), (.iload_n 1, 0), (.putfield 268, 0), (.aload_n 0, 0), (.iload_n 1, 0), (.putfield 282, 0), (.iload 4, 0)] (pc' := 146) (lv' := [(0, .ref 0), (1, .int v1), (2, .long v2), (4, .int v4)]) (st' := [.int v4]) (σ' := (fhI (fhI σ 0 2 v1) 0 4 v1)) (by decide +kernel) rfl rfl rfl ?_
        have e9 := Option.some.inj h
        subst e9
        exact fhW.iret hΓ (by decide +kernel) hk
      · rw [if_neg hc] at h
        refine fhW.goto hΓ (off := 16) (tgt := 147) (by decide +kernel) ?_
        refine fhW.blk fhPM fhLL hΓ [(.iinc 4 1, 1)] (pc' := 150) (lv' := [(4, .int (v4 + (1 : Int32))), (0, .ref 0), (1, .int v1), (2, .long v2)]) (st' := []) (σ' := σ) (by decide +kernel) rfl rfl rfl ?_
        refine fhW.goto hΓ (off := (-53)) (tgt := 97) (by decide +kernel) ?_
        refine fhW.sub (lv' := [(0, .ref 0), (1, .int v1), (2, .long v2), (4, .int (v4 + (1 : Int32)))]) [1, 2, 3, 0] rfl ?_
        have e9 := Option.some.inj h
        subst e9
        exact hk
set_option maxRecDepth 100000 in
set_option maxHeartbeats 4000000 in
theorem L_X12_guestHere_94 {Γ : fhX} (hΓ : fhOk fhYM 12 cX12_guestHere 5 (some .int) Γ) (hd : 1 ≤ fhD Γ) (v1 : Int32) (v2 : Int64)  (σ : fhM) (o : Int32 × fhM) (h : f_X12_guestHere_94 v1 v2 σ = some o) (hk : (fun o => fhRet Γ (some (.int o.1)) o.2) o) : fhW fhYM Γ 94 [(0, .ref 0), (1, .int v1), (2, .long v2)] [] σ := by
  unfold f_X12_guestHere_94 at h
  refine fhW.blk fhPM fhLL hΓ [(.iconst 0, 0), (.istore 4, 0)] (pc' := 97) (lv' := [(4, .int (0 : Int32)), (0, .ref 0), (1, .int v1), (2, .long v2)]) (st' := []) (σ' := σ) (by decide +kernel) rfl rfl rfl ?_
  refine fhW.sub (lv' := [(0, .ref 0), (1, .int v1), (2, .long v2), (4, .int (0 : Int32))]) [1, 2, 3, 0] rfl ?_
  exact fhlp_ok (W := (fun x => fhW fhYM Γ 97 [(0, .ref 0), (1, .int v1), (2, .long v2), (4, .int x)] [] σ)) (B := (fun o => fhRet Γ (some (.int o.1)) o.2)) (fun x o h hk => L_X12_guestHere_97 hΓ hd v1 v2 x σ o h hk) (0 : Int32) _ h hk
set_option maxRecDepth 100000 in
set_option maxHeartbeats 4000000 in
theorem L_X12_guestHere_37 {Γ : fhX} (hΓ : fhOk fhYM 12 cX12_guestHere 5 (some .int) Γ) (hd : 1 ≤ fhD Γ) (v1 : Int32) (v2 : Int64)  (σ : fhM) (o : (Int32 × Int64) ⊕ (Int32 × fhM)) (h : f_X12_guestHere_37 v1 v2 σ = some o) (hk : (fhK (fun x => fhW fhYM Γ 37 [(0, .ref 0), (1, .int x.1), (2, .long x.2)] [] σ) (fun o => fhRet Γ (some (.int o.1)) o.2)) o) : fhW fhYM Γ 37 [(0, .ref 0), (1, .int v1), (2, .long v2)] [] σ := by
  unfold f_X12_guestHere_37 at h
  refine fhW.blk fhPM fhLL hΓ [(.iload_n 1, 0), (.aload_n 0, 0), (.getfield 271, 0)] (pc' := 42) (lv' := [(0, .ref 0), (1, .int v1), (2, .long v2)]) (st' := [.int (σ.1 0 3), .int v1]) (σ' := σ) (by decide +kernel) rfl rfl rfl ?_
  refine fhW.i_ge hΓ (tgt := 94) (show fhbk _ _ (.if_icmp .ge (52)) _ = true by decide +kernel) (fun hc => ?_) (fun hc => ?_)
  · rw [if_pos hc] at h
    refine fhW.sub (lv' := [(0, .ref 0), (1, .int v1), (2, .long v2)]) [0, 1, 2] rfl ?_
    obtain ⟨z1, hz, e1⟩ := Option.map_eq_some_iff.mp h
    clear h
    subst e1
    have h := hz
    have hk : (fun o => fhRet Γ (some (.int o.1)) o.2) z1 := hk
    exact L_X12_guestHere_94 hΓ hd v1 v2 σ _ h hk
  · rw [if_neg hc] at h
    obtain ⟨hg2, h⟩ := fhif h
    refine fhW.blk fhPM fhLL hΓ [(.aload_n 0, 0), (.getfield 7, 0), (.iload_n 1, 0), (.iaload, 0)] (pc' := 51) (lv' := [(0, .ref 0), (1, .int v1), (2, .long v2)]) (st' := [.int (σ.1 1 (fhix v1))]) (σ' := σ) (by decide +kernel) rfl rfl hg2 ?_
    refine fhW.calls hΓ msX12_isLetter ml_12_278 (av := [.int (σ.1 1 (fhix v1))]) (rest := []) (r := (some (.int (fhb (f_X12_isLetter (σ.1 1 (fhix v1)) σ))))) (σ' := σ) (T_X12_isLetter (E := fhEn Γ) (d := fhD Γ - 1) (by omega) (σ.1 1 (fhix v1)) σ) (by omega) (by decide +kernel) rfl (Nat.le_of_ble_eq_true rfl) rfl ?_
    show fhW fhYM Γ 54 [(0, .ref 0), (1, .int v1), (2, .long v2)] [.int (fhb (f_X12_isLetter (σ.1 1 (fhix v1)) σ))] σ
    refine fhW.b_eq hΓ (tgt := 94) (show fhbk _ _ (.ifCond .eq (40)) _ = true by decide +kernel) (fun hc => ?_) (fun hc => ?_)
    · rw [if_neg hc] at h
      refine fhW.sub (lv' := [(0, .ref 0), (1, .int v1), (2, .long v2)]) [0, 1, 2] rfl ?_
      obtain ⟨z2, hz, e2⟩ := Option.map_eq_some_iff.mp h
      clear h
      subst e2
      have h := hz
      have hk : (fun o => fhRet Γ (some (.int o.1)) o.2) z2 := hk
      exact L_X12_guestHere_94 hΓ hd v1 v2 σ _ h hk
    · rw [if_pos hc] at h
      refine fhW.blk fhPM fhLL hΓ [(.iload_n 1, 0), (.aload_n 0, 0), (.getfield 268, 0), (.isub, 0), (.bipush 7, 7)] (pc' := 65) (lv' := [(0, .ref 0), (1, .int v1), (2, .long v2)]) (st' := [.int (7 : Int32), .int (v1 - (σ.1 0 2))]) (σ' := σ) (by decide +kernel) rfl rfl rfl ?_
      refine fhW.i_ge hΓ (tgt := 94) (show fhbk _ _ (.if_icmp .ge (29)) _ = true by decide +kernel) (fun hc => ?_) (fun hc => ?_)
      · rw [if_pos hc] at h
        refine fhW.sub (lv' := [(0, .ref 0), (1, .int v1), (2, .long v2)]) [0, 1, 2] rfl ?_
        obtain ⟨z3, hz, e3⟩ := Option.map_eq_some_iff.mp h
        clear h
        subst e3
        have h := hz
        have hk : (fun o => fhRet Γ (some (.int o.1)) o.2) z3 := hk
        exact L_X12_guestHere_94 hΓ hd v1 v2 σ _ h hk
      · rw [if_neg hc] at h
        obtain ⟨hg3, h⟩ := fhif h
        refine fhW.blk fhPM fhLL hΓ [(.ldc2_w 316, 0), (.lload_n 2, 0), (.lmul, 0), (.aload_n 0, 0), (.getfield 7, 0), (.iload_n 1, 0), (.iaload, 0), (.i2l, 0), (.ladd, 0), (.ldc2_w 318, 0), (.lsub, 0), (.lconst 1, 0), (.ladd, 0), (.lstore_n 2, 0)] (pc' := 88) (lv' := [(2, .long (((((27 : Int64) * v2) + (Int32.toInt64 (σ.1 1 (fhix v1)))) - (97 : Int64)) + (1 : Int64))), (0, .ref 0), (1, .int v1)]) (st' := []) (σ' := σ) (by decide +kernel) rfl rfl hg3 ?_
        obtain ⟨w2_1, e4, h⟩ := fhlet_elim h
        rw [← e4]
        refine fhW.blk fhPM fhLL hΓ [(.iinc 1 1, 1)] (pc' := 91) (lv' := [(1, .int (v1 + (1 : Int32))), (2, .long w2_1), (0, .ref 0)]) (st' := []) (σ' := σ) (by decide +kernel) rfl rfl rfl ?_
        refine fhW.goto hΓ (off := (-54)) (tgt := 37) (by decide +kernel) ?_
        refine fhW.sub (lv' := [(0, .ref 0), (1, .int (v1 + (1 : Int32))), (2, .long w2_1)]) [2, 0, 1] rfl ?_
        have e9 := Option.some.inj h
        subst e9
        exact hk
set_option maxRecDepth 100000 in
set_option maxHeartbeats 4000000 in
theorem L_X12_guestHere_E {Γ : fhX} (hΓ : fhOk fhYM 12 cX12_guestHere 5 (some .int) Γ) (hd : 1 ≤ fhD Γ)   (σ : fhM) (o : Int32 × fhM) (h : f_X12_guestHere σ = some o) (hk : (fun o => fhRet Γ (some (.int o.1)) o.2) o) : fhW fhYM Γ 0 [(0, .ref 0)] [] σ := by
  unfold f_X12_guestHere at h
  refine fhW.blk fhPM fhLL hΓ [(.aload_n 0, 0), (.getfield 262, 0)] (pc' := 4) (lv' := [(0, .ref 0)]) (st' := [.int (σ.1 0 5)]) (σ' := σ) (by decide +kernel) rfl rfl rfl ?_
  refine fhW.z_ne hΓ (tgt := 28) (show fhbk _ _ (.ifCond .ne (24)) _ = true by decide +kernel) (fun hc => ?_) (fun hc => ?_)
  · rw [if_neg hc] at h
    refine fhW.blk fhPM fhLL hΓ [(.iconst (-1), -1)] (pc' := 29) (lv' := [(0, .ref 0)]) (st' := [.int (-1 : Int32)]) (σ' := σ) (by decide +kernel) rfl rfl rfl ?_
    have e9 := Option.some.inj h
    subst e9
    exact fhW.iret hΓ (by decide +kernel) hk
  · rw [if_pos hc] at h
    refine fhW.blk fhPM fhLL hΓ [(.aload_n 0, 0)] (pc' := 8) (lv' := [(0, .ref 0)]) (st' := [.ref 0]) (σ' := σ) (by decide +kernel) rfl rfl rfl ?_
    obtain ⟨q1, hb1, h⟩ := Option.bind_eq_some_iff.mp h
    refine fhW.callv hΓ mvX12_look ml_12_274 (t := 0) (ci := 12) (av := []) (rest := []) (r := (some (.int q1.1))) (σ' := q1.2) (T_X12_look (E := fhEn Γ) (d := fhD Γ - 1) (by omega) σ hb1) (by omega) (by decide +kernel) rfl rfl rfl (Nat.le_of_ble_eq_true rfl) rfl ?_
    show fhW fhYM Γ 11 [(0, .ref 0)] [.int q1.1] q1.2
    refine fhW.calls hΓ msX12_isLetter ml_12_278 (av := [.int q1.1]) (rest := []) (r := (some (.int (fhb (f_X12_isLetter q1.1 q1.2))))) (σ' := q1.2) (T_X12_isLetter (E := fhEn Γ) (d := fhD Γ - 1) (by omega) q1.1 q1.2) (by omega) (by decide +kernel) rfl (Nat.le_of_ble_eq_true rfl) rfl ?_
    show fhW fhYM Γ 14 [(0, .ref 0)] [.int (fhb (f_X12_isLetter q1.1 q1.2))] q1.2
    refine fhW.b_eq hΓ (tgt := 28) (show fhbk _ _ (.ifCond .eq (14)) _ = true by decide +kernel) (fun hc => ?_) (fun hc => ?_)
    · rw [if_neg hc] at h
      refine fhW.blk fhPM fhLL hΓ [(.iconst (-1), -1)] (pc' := 29) (lv' := [(0, .ref 0)]) (st' := [.int (-1 : Int32)]) (σ' := q1.2) (by decide +kernel) rfl rfl rfl ?_
      have e9 := Option.some.inj h
      subst e9
      exact fhW.iret hΓ (by decide +kernel) hk
    · rw [if_pos hc] at h
      refine fhW.blk fhPM fhLL hΓ [(.aload_n 0, 0), (.getfield 268, 0), (.aload_n 0, 0), (.getfield 282, 0)] (pc' := 25) (lv' := [(0, .ref 0)]) (st' := [.int (q1.2.1 0 4), .int (q1.2.1 0 2)]) (σ' := q1.2) (by decide +kernel) rfl rfl rfl ?_
      refine fhW.i_ne hΓ (tgt := 30) (show fhbk _ _ (.if_icmp .ne (5)) _ = true by decide +kernel) (fun hc => ?_) (fun hc => ?_)
      · rw [if_neg hc] at h
        refine fhW.blk fhPM fhLL hΓ [(.aload_n 0, 0), (.getfield 268, 0), (.istore_n 1, 0), (.lconst 0, 0), (.lstore_n 2, 0)] (pc' := 37) (lv' := [(2, .long (0 : Int64)), (1, .int (q1.2.1 0 2)), (0, .ref 0)]) (st' := []) (σ' := q1.2) (by decide +kernel) rfl rfl rfl ?_
        refine fhW.sub (lv' := [(0, .ref 0), (1, .int (q1.2.1 0 2)), (2, .long (0 : Int64))]) [2, 1, 0] rfl ?_
        exact fhlp_ok (W := (fun x => fhW fhYM Γ 37 [(0, .ref 0), (1, .int x.1), (2, .long x.2)] [] q1.2)) (B := (fun o => fhRet Γ (some (.int o.1)) o.2)) (fun x o h hk => L_X12_guestHere_37 hΓ hd x.1 x.2 q1.2 o h hk) ((q1.2.1 0 2), (0 : Int64)) _ h hk
      · rw [if_pos hc] at h
        refine fhW.blk fhPM fhLL hΓ [(.iconst (-1), -1)] (pc' := 29) (lv' := [(0, .ref 0)]) (st' := [.int (-1 : Int32)]) (σ' := q1.2) (by decide +kernel) rfl rfl rfl ?_
        have e9 := Option.some.inj h
        subst e9
        exact fhW.iret hΓ (by decide +kernel) hk
set_option maxRecDepth 100000 in
theorem T_X12_guestHere {E : fhE} {d : Nat} (hd : 1 ≤ d)   (σ : fhM) {o : Int32 × fhM} (h : f_X12_guestHere σ = some o) : fhC fhYM E d miX12_guestHere [.ref 0] σ (some (.int o.1)) o.2 := by
  refine fhC.of (y := yX12_guestHere) (cc := cX12_guestHere) (nL := 5) (ret := (some .int)) 12 rfl (by decide +kernel) (Nat.le_of_ble_eq_true rfl) ?_
  intro Γ hΓ hR hD hEn
  subst hD; subst hEn
  exact L_X12_guestHere_E hΓ hd   σ _ h hR
set_option maxRecDepth 100000 in
set_option maxHeartbeats 4000000 in
theorem L_X12_isAllowed_46 {Γ : fhX} (hΓ : fhOk fhYM 12 cX12_isAllowed 2 (some .boolean) Γ) (hd : 1 ≤ fhD Γ)   (σ : fhM) (o : Bool) (h : f_X12_isAllowed_46 σ = o) (hk : (fun o => fhRet Γ (some (.int (fhb o))) σ) o) : fhW fhYM Γ 46 [] [] σ := by
  unfold f_X12_isAllowed_46 at h
  refine fhW.blk fhPM fhLL hΓ [(.iconst 1, 1)] (pc' := 47) (lv' := []) (st' := [.int (1 : Int32)]) (σ' := σ) (by decide +kernel) rfl rfl rfl ?_
  refine fhW.goto hΓ (off := 4) (tgt := 51) (by decide +kernel) ?_
  subst h
  exact fhW.zret (v := true) hΓ (by decide +kernel) hk
set_option maxRecDepth 100000 in
set_option maxHeartbeats 4000000 in
theorem L_X12_isAllowed_18 {Γ : fhX} (hΓ : fhOk fhYM 12 cX12_isAllowed 2 (some .boolean) Γ) (hd : 1 ≤ fhD Γ)   (σ : fhM) (o : Bool) (h : f_X12_isAllowed_18 σ = o) (hk : (fun o => fhRet Γ (some (.int (fhb o))) σ) o) : fhW fhYM Γ 18 [] [] σ := by
  unfold f_X12_isAllowed_18 at h
  refine fhW.blk fhPM fhLL hΓ [(.iconst 1, 1)] (pc' := 19) (lv' := []) (st' := [.int (1 : Int32)]) (σ' := σ) (by decide +kernel) rfl rfl rfl ?_
  refine fhW.goto hΓ (off := 32) (tgt := 51) (by decide +kernel) ?_
  subst h
  exact fhW.zret (v := true) hΓ (by decide +kernel) hk
set_option maxRecDepth 100000 in
set_option maxHeartbeats 4000000 in
theorem L_X12_isAllowed_E {Γ : fhX} (hΓ : fhOk fhYM 12 cX12_isAllowed 2 (some .boolean) Γ) (hd : 1 ≤ fhD Γ) (v1 : Int32)  (σ : fhM) (o : Bool) (h : f_X12_isAllowed v1 σ = o) (hk : (fun o => fhRet Γ (some (.int (fhb o))) σ) o) : fhW fhYM Γ 0 [(0, .ref 0), (1, .int v1)] [] σ := by
  unfold f_X12_isAllowed at h
  refine fhW.blk fhPM fhLL hΓ [(.aload_n 0, 0), (.getfield 320, 0)] (pc' := 4) (lv' := [(0, .ref 0), (1, .int v1)]) (st' := [.int (σ.1 0 48)]) (σ' := σ) (by decide +kernel) rfl rfl rfl ?_
  refine fhW.z_ne hΓ (tgt := 26) (show fhbk _ _ (.ifCond .ne (22)) _ = true by decide +kernel) (fun hc => ?_) (fun hc => ?_)
  · rw [if_neg hc] at h
    refine fhW.blk fhPM fhLL hΓ [(.iload_n 1, 0), (.i2l, 0), (.ldc2_w 323, 0), (.ldc2_w 325, 0)] (pc' := 34) (lv' := [(0, .ref 0), (1, .int v1)]) (st' := [.long (8 : Int64), .long (4 : Int64), .long (Int32.toInt64 v1)]) (σ' := σ) (by decide +kernel) rfl rfl rfl ?_
    refine fhW.calls hΓ msX12_isIn ml_12_305 (av := [.long (Int32.toInt64 v1), .long (4 : Int64), .long (8 : Int64)]) (rest := []) (r := (some (.int (fhb (f_X12_isIn (Int32.toInt64 v1) (4 : Int64) (8 : Int64) σ))))) (σ' := σ) (T_X12_isIn (E := fhEn Γ) (d := fhD Γ - 1) (by omega) (Int32.toInt64 v1) (4 : Int64) (8 : Int64) σ) (by omega) (by decide +kernel) rfl (Nat.le_of_ble_eq_true rfl) rfl ?_
    show fhW fhYM Γ 37 [(0, .ref 0), (1, .int v1)] [.int (fhb (f_X12_isIn (Int32.toInt64 v1) (4 : Int64) (8 : Int64) σ))] σ
    refine fhW.b_ne hΓ (tgt := 46) (show fhbk _ _ (.ifCond .ne (9)) _ = true by decide +kernel) (fun hc => ?_) (fun hc => ?_)
    · rw [if_pos hc] at h
      refine fhW.sub (lv' := []) [] rfl ?_
      exact L_X12_isAllowed_46 hΓ hd σ _ h hk
    · rw [if_neg hc] at h
      refine fhW.blk fhPM fhLL hΓ [(.iload_n 1, 0), (.bipush 9, 9)] (pc' := 43) (lv' := [(0, .ref 0), (1, .int v1)]) (st' := [.int (9 : Int32), .int v1]) (σ' := σ) (by decide +kernel) rfl rfl rfl ?_
      refine fhW.i_le hΓ (tgt := 50) (show fhbk _ _ (.if_icmp .le (7)) _ = true by decide +kernel) (fun hc => ?_) (fun hc => ?_)
      · rw [if_pos hc] at h
        refine fhW.blk fhPM fhLL hΓ [(.iconst 0, 0)] (pc' := 51) (lv' := [(0, .ref 0), (1, .int v1)]) (st' := [.int (0 : Int32)]) (σ' := σ) (by decide +kernel) rfl rfl rfl ?_
        subst h
        exact fhW.zret (v := false) hΓ (by decide +kernel) hk
      · rw [if_neg hc] at h
        refine fhW.sub (lv' := []) [] rfl ?_
        exact L_X12_isAllowed_46 hΓ hd σ _ h hk
  · rw [if_pos hc] at h
    refine fhW.blk fhPM fhLL hΓ [(.iload_n 1, 0), (.iconst 4, 4)] (pc' := 9) (lv' := [(0, .ref 0), (1, .int v1)]) (st' := [.int (4 : Int32), .int v1]) (σ' := σ) (by decide +kernel) rfl rfl rfl ?_
    refine fhW.i_lt hΓ (tgt := 18) (show fhbk _ _ (.if_icmp .lt (9)) _ = true by decide +kernel) (fun hc => ?_) (fun hc => ?_)
    · rw [if_pos hc] at h
      refine fhW.sub (lv' := []) [] rfl ?_
      exact L_X12_isAllowed_18 hΓ hd σ _ h hk
    · rw [if_neg hc] at h
      refine fhW.blk fhPM fhLL hΓ [(.iload_n 1, 0), (.bipush 9, 9)] (pc' := 15) (lv' := [(0, .ref 0), (1, .int v1)]) (st' := [.int (9 : Int32), .int v1]) (σ' := σ) (by decide +kernel) rfl rfl rfl ?_
      refine fhW.i_ne hΓ (tgt := 22) (show fhbk _ _ (.if_icmp .ne (7)) _ = true by decide +kernel) (fun hc => ?_) (fun hc => ?_)
      · rw [if_neg hc] at h
        refine fhW.blk fhPM fhLL hΓ [(.iconst 0, 0)] (pc' := 23) (lv' := [(0, .ref 0), (1, .int v1)]) (st' := [.int (0 : Int32)]) (σ' := σ) (by decide +kernel) rfl rfl rfl ?_
        refine fhW.goto hΓ (off := 28) (tgt := 51) (by decide +kernel) ?_
        subst h
        exact fhW.zret (v := false) hΓ (by decide +kernel) hk
      · rw [if_pos hc] at h
        refine fhW.sub (lv' := []) [] rfl ?_
        exact L_X12_isAllowed_18 hΓ hd σ _ h hk
set_option maxRecDepth 100000 in
theorem T_X12_isAllowed {E : fhE} {d : Nat} (hd : 1 ≤ d) (v1 : Int32)  (σ : fhM) : fhC fhYM E d miX12_isAllowed [.ref 0, .int v1] σ (some (.int (fhb (f_X12_isAllowed v1 σ)))) σ := by
  refine fhC.of (y := yX12_isAllowed) (cc := cX12_isAllowed) (nL := 2) (ret := (some .boolean)) 12 rfl (by decide +kernel) (Nat.le_of_ble_eq_true rfl) ?_
  intro Γ hΓ hR hD hEn
  subst hD; subst hEn
  exact L_X12_isAllowed_E hΓ hd v1  σ _ rfl hR
set_option maxRecDepth 100000 in
set_option maxHeartbeats 4000000 in
theorem L_X12_isFull_23 {Γ : fhX} (hΓ : fhOk fhYM 12 cX12_isFull 4 (some .boolean) Γ) (hd : 1 ≤ fhD Γ)   (σ : fhM) (o : Bool × fhM) (h : f_X12_isFull_23 σ = some o) (hk : (fun o => fhRet Γ (some (.int (fhb o.1))) o.2) o) : fhW fhYM Γ 23 [(0, .ref 0)] [] σ := by
  unfold f_X12_isFull_23 at h
  refine fhW.blk fhPM fhLL hΓ [(.aload_n 0, 0), (.getfield 262, 0)] (pc' := 27) (lv' := [(0, .ref 0)]) (st' := [.int (σ.1 0 5)]) (σ' := σ) (by decide +kernel) rfl rfl rfl ?_
  refine fhW.z_eq hΓ (tgt := 34) (show fhbk _ _ (.ifCond .eq (7)) _ = true by decide +kernel) (fun hc => ?_) (fun hc => ?_)
  · rw [if_pos hc] at h
    refine fhW.blk fhPM fhLL hΓ [(.iconst 0, 0)] (pc' := 35) (lv' := [(0, .ref 0)]) (st' := [.int (0 : Int32)]) (σ' := σ) (by decide +kernel) rfl rfl rfl ?_
    have e9 := Option.some.inj h
    subst e9
    exact fhW.zret (v := false) hΓ (by decide +kernel) hk
  · rw [if_neg hc] at h
    refine fhW.blk fhPM fhLL hΓ [(.iconst 1, 1)] (pc' := 31) (lv' := [(0, .ref 0)]) (st' := [.int (1 : Int32)]) (σ' := σ) (by decide +kernel) rfl rfl rfl ?_
    refine fhW.goto hΓ (off := 4) (tgt := 35) (by decide +kernel) ?_
    have e9 := Option.some.inj h
    subst e9
    exact fhW.zret (v := true) hΓ (by decide +kernel) hk
set_option maxRecDepth 100000 in
set_option maxHeartbeats 4000000 in
theorem L_X12_isFull_E {Γ : fhX} (hΓ : fhOk fhYM 12 cX12_isFull 4 (some .boolean) Γ) (hd : 1 ≤ fhD Γ) (v1 : Int32) (v2 : Int32) (v3 : Int32)  (σ : fhM) (o : Bool × fhM) (h : f_X12_isFull v1 v2 v3 σ = some o) (hk : (fun o => fhRet Γ (some (.int (fhb o.1))) o.2) o) : fhW fhYM Γ 0 [(0, .ref 0), (1, .int v1), (2, .int v2), (3, .int v3)] [] σ := by
  unfold f_X12_isFull at h
  refine fhW.blk fhPM fhLL hΓ [(.aload_n 0, 0), (.getfield 262, 0)] (pc' := 4) (lv' := [(0, .ref 0), (1, .int v1), (2, .int v2), (3, .int v3)]) (st' := [.int (σ.1 0 5)]) (σ' := σ) (by decide +kernel) rfl rfl rfl ?_
  refine fhW.z_ne hΓ (tgt := 23) (show fhbk _ _ (.ifCond .ne (19)) _ = true by decide +kernel) (fun hc => ?_) (fun hc => ?_)
  · rw [if_neg hc] at h
    refine fhW.sub (lv' := [(0, .ref 0)]) [0] rfl ?_
    exact L_X12_isFull_23 hΓ hd σ _ h hk
  · rw [if_pos hc] at h
    obtain ⟨hg1, h⟩ := fhif h
    refine fhW.blk fhPM fhLL hΓ [(.aload_n 0, 0), (.getfield 99, 0), (.iload_n 1, 0), (.iaload, 0), (.iload_n 2, 0)] (pc' := 14) (lv' := [(0, .ref 0), (1, .int v1), (2, .int v2), (3, .int v3)]) (st' := [.int v2, .int (σ.1 29 (fhix v1))]) (σ' := σ) (by decide +kernel) rfl rfl hg1 ?_
    refine fhW.i_ne hΓ (tgt := 23) (show fhbk _ _ (.if_icmp .ne (9)) _ = true by decide +kernel) (fun hc => ?_) (fun hc => ?_)
    · rw [if_neg hc] at h
      refine fhW.sub (lv' := [(0, .ref 0)]) [0] rfl ?_
      exact L_X12_isFull_23 hΓ hd σ _ h hk
    · rw [if_pos hc] at h
      refine fhW.blk fhPM fhLL hΓ [(.aload_n 0, 0), (.iconst 5, 5), (.iload_n 3, 0)] (pc' := 20) (lv' := [(0, .ref 0), (1, .int v1), (2, .int v2), (3, .int v3)]) (st' := [.int v3, .int (5 : Int32), .ref 0]) (σ' := σ) (by decide +kernel) rfl rfl rfl ?_
      refine fhW.callv hΓ mvX12_fail ml_12_292 (t := 0) (ci := 12) (av := [.int (5 : Int32), .int v3]) (rest := []) (r := none) (σ' := (f_X12_fail (5 : Int32) v3 σ)) (T_X12_fail (E := fhEn Γ) (d := fhD Γ - 1) (by omega) (5 : Int32) v3 σ) (by omega) (by decide +kernel) rfl rfl rfl (Nat.le_of_ble_eq_true rfl) rfl ?_
      show fhW fhYM Γ 23 [(0, .ref 0), (1, .int v1), (2, .int v2), (3, .int v3)] [] (f_X12_fail (5 : Int32) v3 σ)
      obtain ⟨q1, e1, h⟩ := fhlet_elim h
      rw [← e1]
      refine fhW.sub (lv' := [(0, .ref 0)]) [0] rfl ?_
      exact L_X12_isFull_23 hΓ hd q1 _ h hk
set_option maxRecDepth 100000 in
theorem T_X12_isFull {E : fhE} {d : Nat} (hd : 1 ≤ d) (v1 : Int32) (v2 : Int32) (v3 : Int32)  (σ : fhM) {o : Bool × fhM} (h : f_X12_isFull v1 v2 v3 σ = some o) : fhC fhYM E d miX12_isFull [.ref 0, .int v1, .int v2, .int v3] σ (some (.int (fhb o.1))) o.2 := by
  refine fhC.of (y := yX12_isFull) (cc := cX12_isFull) (nL := 4) (ret := (some .boolean)) 12 rfl (by decide +kernel) (Nat.le_of_ble_eq_true rfl) ?_
  intro Γ hΓ hR hD hEn
  subst hD; subst hEn
  exact L_X12_isFull_E hΓ hd v1 v2 v3  σ _ h hR
set_option maxRecDepth 100000 in
set_option maxHeartbeats 4000000 in
theorem L_X12_marksTold_E {Γ : fhX} (hΓ : fhOk fhYM 12 cX12_marksTold 1 none Γ) (hd : 4 ≤ fhD Γ)   (σ : fhM) (o : fhM) (h : f_X12_marksTold σ = some o) (hk : (fun o => fhRet Γ none o) o) : fhW fhYM Γ 0 [(0, .ref 0)] [] σ := by
  unfold f_X12_marksTold at h
  refine fhW.blk fhPM fhLL hΓ [(.aload_n 0, 0), (.aload_n 0, 0), (.getfield 20, 0)] (pc' := 5) (lv' := [(0, .ref 0)]) (st' := [.ref 3, .ref 0]) (σ' := σ) (by decide +kernel) rfl rfl rfl ?_
  obtain ⟨q1, hb1, h⟩ := Option.bind_eq_some_iff.mp h
  refine fhW.callv hΓ mvX12_asks ml_12_327 (t := 0) (ci := 12) (av := [.ref 3]) (rest := []) (r := none) (σ' := q1) (T_X12_asks (E := fhEn Γ) (d := fhD Γ - 1) (by omega) 3 rfl σ hb1) (by omega) (by decide +kernel) rfl rfl rfl (Nat.le_of_ble_eq_true rfl) rfl ?_
  show fhW fhYM Γ 8 [(0, .ref 0)] [] q1
  refine fhW.blk fhPM fhLL hΓ [(.aload_n 0, 0), (.getfield 99, 0), (.iconst 0, 0), (.aload_n 0, 0), (.iconst 2, 2), (.iconst 4, 4)] (pc' := 16) (lv' := [(0, .ref 0)]) (st' := [.int (4 : Int32), .int (2 : Int32), .ref 0, .int (0 : Int32), .ref 29]) (σ' := q1) (by decide +kernel) rfl rfl rfl ?_
  obtain ⟨q2, hb2, h⟩ := Option.bind_eq_some_iff.mp h
  refine fhW.callv hΓ mvX12_number ml_12_331 (t := 0) (ci := 12) (av := [.int (2 : Int32), .int (4 : Int32)]) (rest := [.int (0 : Int32), .ref 29]) (r := (some (.int q2.1))) (σ' := q2.2) (T_X12_number (E := fhEn Γ) (d := fhD Γ - 1) (by omega) (2 : Int32) (4 : Int32) q1 hb2) (by omega) (by decide +kernel) rfl rfl rfl (Nat.le_of_ble_eq_true rfl) rfl ?_
  show fhW fhYM Γ 19 [(0, .ref 0)] [.int q2.1, .int (0 : Int32), .ref 29] q2.2
  refine fhW.blk fhPM fhLL hΓ [(.iastore, 0), (.aload_n 0, 0), (.bipush 59, 59)] (pc' := 23) (lv' := [(0, .ref 0)]) (st' := [.int (59 : Int32), .ref 0]) (σ' := (fhI q2.2 29 0 q2.1)) (by decide +kernel) rfl rfl rfl ?_
  obtain ⟨q3, hb3, h⟩ := Option.bind_eq_some_iff.mp h
  refine fhW.callv hΓ mvX12_asksSign ml_12_335 (t := 0) (ci := 12) (av := [.int (59 : Int32)]) (rest := []) (r := none) (σ' := q3) (T_X12_asksSign (E := fhEn Γ) (d := fhD Γ - 1) (by omega) (59 : Int32) (fhI q2.2 29 0 q2.1) hb3) (by omega) (by decide +kernel) rfl rfl rfl (Nat.le_of_ble_eq_true rfl) rfl ?_
  show fhW fhYM Γ 26 [(0, .ref 0)] [] q3
  have e9 := Option.some.inj h
  subst e9
  exact fhW.vret hΓ (by decide +kernel) hk
set_option maxRecDepth 100000 in
theorem T_X12_marksTold {E : fhE} {d : Nat} (hd : 4 ≤ d)   (σ : fhM) {o : fhM} (h : f_X12_marksTold σ = some o) : fhC fhYM E d miX12_marksTold [.ref 0] σ none o := by
  refine fhC.of (y := yX12_marksTold) (cc := cX12_marksTold) (nL := 1) (ret := none) 12 rfl (by decide +kernel) (Nat.le_of_ble_eq_true rfl) ?_
  intro Γ hΓ hR hD hEn
  subst hD; subst hEn
  exact L_X12_marksTold_E hΓ hd   σ _ h hR
set_option maxRecDepth 100000 in
set_option maxHeartbeats 4000000 in
theorem L_X12_guestTold_58 {Γ : fhX} (hΓ : fhOk fhYM 12 cX12_guestTold 5 none Γ) (hd : 4 ≤ fhD Γ) (v2 : Int64) (v4 : Int32)  (σ : fhM) (o : (Int32 × fhM) ⊕ (fhM)) (h : f_X12_guestTold_58 v2 v4 σ = some o) (hk : (fhK (fun x => fhW fhYM Γ 19 [(0, .ref 0), (2, .long v2), (4, .int x.1)] [] x.2) (fun o => fhRet Γ none o)) o) : fhW fhYM Γ 58 [(0, .ref 0), (2, .long v2), (4, .int v4)] [] σ := by
  unfold f_X12_guestTold_58 at h
  refine fhW.blk fhPM fhLL hΓ [(.iinc 4 1, 1)] (pc' := 61) (lv' := [(4, .int (v4 + (1 : Int32))), (0, .ref 0), (2, .long v2)]) (st' := []) (σ' := σ) (by decide +kernel) rfl rfl rfl ?_
  refine fhW.goto hΓ (off := (-42)) (tgt := 19) (by decide +kernel) ?_
  refine fhW.sub (lv' := [(0, .ref 0), (2, .long v2), (4, .int (v4 + (1 : Int32)))]) [1, 2, 0] rfl ?_
  have e9 := Option.some.inj h
  subst e9
  exact hk
set_option maxRecDepth 100000 in
set_option maxHeartbeats 4000000 in
theorem L_X12_guestTold_19 {Γ : fhX} (hΓ : fhOk fhYM 12 cX12_guestTold 5 none Γ) (hd : 4 ≤ fhD Γ) (v2 : Int64) (v4 : Int32)  (σ : fhM) (o : (Int32 × fhM) ⊕ (fhM)) (h : f_X12_guestTold_19 v2 v4 σ = some o) (hk : (fhK (fun x => fhW fhYM Γ 19 [(0, .ref 0), (2, .long v2), (4, .int x.1)] [] x.2) (fun o => fhRet Γ none o)) o) : fhW fhYM Γ 19 [(0, .ref 0), (2, .long v2), (4, .int v4)] [] σ := by
  unfold f_X12_guestTold_19 at h
  refine fhW.blk fhPM fhLL hΓ [(.iload 4, 0), (.aload_n 0, 0), (.getfield 99, 0), (.iconst 1, 1), (.iaload, 0)] (pc' := 27) (lv' := [(0, .ref 0), (2, .long v2), (4, .int v4)]) (st' := [.int (σ.1 29 1), .int v4]) (σ' := σ) (by decide +kernel) rfl rfl rfl ?_
  refine fhW.i_ge hΓ (tgt := 64) (show fhbk _ _ (.if_icmp .ge (37)) _ = true by decide +kernel) (fun hc => ?_) (fun hc => ?_)
  · rw [if_pos hc] at h
    refine fhW.blk fhPM fhLL hΓ [(.aload_n 0, 0), (.aload_n 0, 0), (.getfield 27, 0)] (pc' := 69) (lv' := [(0, .ref 0), (2, .long v2), (4, .int v4)]) (st' := [.ref 5, .ref 0]) (σ' := σ) (by decide +kernel) rfl rfl rfl ?_
    obtain ⟨q3, hb1, h⟩ := Option.bind_eq_some_iff.mp h
    refine fhW.callv hΓ mvX12_asks ml_12_327 (t := 0) (ci := 12) (av := [.ref 5]) (rest := []) (r := none) (σ' := q3) (T_X12_asks (E := fhEn Γ) (d := fhD Γ - 1) (by omega) 5 rfl σ hb1) (by omega) (by decide +kernel) rfl rfl rfl (Nat.le_of_ble_eq_true rfl) rfl ?_
    show fhW fhYM Γ 72 [(0, .ref 0), (2, .long v2), (4, .int v4)] [] q3
    refine fhW.blk fhPM fhLL hΓ [(.aload_n 0, 0), (.iconst 0, 0), (.aload_n 0, 0), (.getfield 99, 0), (.iconst 0, 0), (.iaload, 0), (.iconst 1, 1), (.isub, 0)] (pc' := 82) (lv' := [(0, .ref 0), (2, .long v2), (4, .int v4)]) (st' := [.int ((q3.1 29 0) - (1 : Int32)), .int (0 : Int32), .ref 0]) (σ' := q3) (by decide +kernel) rfl rfl rfl ?_
    obtain ⟨q4, hb2, h⟩ := Option.bind_eq_some_iff.mp h
    refine fhW.callv hΓ mvX12_number ml_12_331 (t := 0) (ci := 12) (av := [.int (0 : Int32), .int ((q3.1 29 0) - (1 : Int32))]) (rest := []) (r := (some (.int q4.1))) (σ' := q4.2) (T_X12_number (E := fhEn Γ) (d := fhD Γ - 1) (by omega) (0 : Int32) ((q3.1 29 0) - (1 : Int32)) q3 hb2) (by omega) (by decide +kernel) rfl rfl rfl (Nat.le_of_ble_eq_true rfl) rfl ?_
    show fhW fhYM Γ 85 [(0, .ref 0), (2, .long v2), (4, .int v4)] [.int q4.1] q4.2
    refine fhW.blk fhPM fhLL hΓ [(.istore 4, 0), (.aload_n 0, 0), (.getfield 262, 0)] (pc' := 91) (lv' := [(4, .int q4.1), (0, .ref 0), (2, .long v2)]) (st' := [.int (q4.2.1 0 5)]) (σ' := q4.2) (by decide +kernel) rfl rfl rfl ?_
    refine fhW.z_eq hΓ (tgt := 95) (show fhbk _ _ (.ifCond .eq (4)) _ = true by decide +kernel) (fun hc => ?_) (fun hc => ?_)
    · rw [if_pos hc] at h
      obtain ⟨hg1, h⟩ := fhif h
      refine fhW.blk fhPM fhLL hΓ [(.aload_n 0, 0), (.getfield 102, 0), (.aload_n 0, 0), (.getfield 99, 0), (.iconst 1, 1), (.iaload, 0), (.lload_n 2, 0), (.lastore, 0), (.aload_n 0, 0), (.getfield 106, 0), (.aload_n 0, 0), (.getfield 99, 0), (.iconst 1, 1), (.iaload, 0), (.iload 4, 0), (.iastore, 0), (.aload_n 0, 0), (.getfield 99, 0), (.iconst 1, 1), (.dup2, 0), (.iaload, 0), (.iconst 1, 1), (.iadd, 0), (.iastore, 0)] (pc' := 130) (lv' := [(4, .int q4.1), (0, .ref 0), (2, .long v2)]) (st' := []) (σ' := (fhI (fhI (fhJ q4.2 30 (fhix (q4.2.1 29 1)) v2) 31 (fhix (q4.2.1 29 1)) q4.1) 29 1 ((q4.2.1 29 1) + (1 : Int32)))) (by decide +kernel) rfl rfl hg1 ?_
      have e9 := Option.some.inj h
      subst e9
      exact fhW.vret hΓ (by decide +kernel) hk
    · rw [if_neg hc] at h
      have e9 := Option.some.inj h
      subst e9
      exact fhW.vret hΓ (by decide +kernel) hk
  · rw [if_neg hc] at h
    refine fhW.blk fhPM fhLL hΓ [(.aload_n 0, 0), (.getfield 262, 0)] (pc' := 34) (lv' := [(0, .ref 0), (2, .long v2), (4, .int v4)]) (st' := [.int (σ.1 0 5)]) (σ' := σ) (by decide +kernel) rfl rfl rfl ?_
    refine fhW.z_ne hΓ (tgt := 58) (show fhbk _ _ (.ifCond .ne (24)) _ = true by decide +kernel) (fun hc => ?_) (fun hc => ?_)
    · rw [if_neg hc] at h
      refine fhW.sub (lv' := [(0, .ref 0), (2, .long v2), (4, .int v4)]) [0, 1, 2] rfl ?_
      exact L_X12_guestTold_58 hΓ hd v2 v4 σ _ h hk
    · rw [if_pos hc] at h
      obtain ⟨hg2, h⟩ := fhif h
      refine fhW.blk fhPM fhLL hΓ [(.aload_n 0, 0), (.getfield 102, 0), (.iload 4, 0), (.laload, 0), (.lload_n 2, 0), (.lcmp, 0)] (pc' := 46) (lv' := [(0, .ref 0), (2, .long v2), (4, .int v4)]) (st' := [.int (lg_cmp (σ.2.1 30 (fhix v4)) v2)]) (σ' := σ) (by decide +kernel) rfl rfl hg2 ?_
      refine fhW.z_ne hΓ (tgt := 58) (show fhbk _ _ (.ifCond .ne (12)) _ = true by decide +kernel) (fun hc => ?_) (fun hc => ?_)
      · rw [if_neg hc] at h
        refine fhW.sub (lv' := [(0, .ref 0), (2, .long v2), (4, .int v4)]) [0, 1, 2] rfl ?_
        exact L_X12_guestTold_58 hΓ hd v2 v4 σ _ h hk
      · rw [if_pos hc] at h
        refine fhW.blk fhPM fhLL hΓ [(.aload_n 0, 0), (.iconst 3, 3), (.aload_n 0, 0), (.getfield 313, 0)] (pc' := 55) (lv' := [(0, .ref 0), (2, .long v2), (4, .int v4)]) (st' := [.int (σ.1 0 37), .int (3 : Int32), .ref 0]) (σ' := σ) (by decide +kernel) rfl rfl rfl ?_
        refine fhW.callv hΓ mvX12_fail ml_12_292 (t := 0) (ci := 12) (av := [.int (3 : Int32), .int (σ.1 0 37)]) (rest := []) (r := none) (σ' := (f_X12_fail (3 : Int32) (σ.1 0 37) σ)) (T_X12_fail (E := fhEn Γ) (d := fhD Γ - 1) (by omega) (3 : Int32) (σ.1 0 37) σ) (by omega) (by decide +kernel) rfl rfl rfl (Nat.le_of_ble_eq_true rfl) rfl ?_
        show fhW fhYM Γ 58 [(0, .ref 0), (2, .long v2), (4, .int v4)] [] (f_X12_fail (3 : Int32) (σ.1 0 37) σ)
        obtain ⟨q5, e1, h⟩ := fhlet_elim h
        rw [← e1]
        refine fhW.sub (lv' := [(0, .ref 0), (2, .long v2), (4, .int v4)]) [0, 1, 2] rfl ?_
        exact L_X12_guestTold_58 hΓ hd v2 v4 q5 _ h hk
set_option maxRecDepth 100000 in
set_option maxHeartbeats 4000000 in
theorem L_X12_guestTold_E {Γ : fhX} (hΓ : fhOk fhYM 12 cX12_guestTold 5 none Γ) (hd : 4 ≤ fhD Γ) (v1 : Int32)  (σ : fhM) (o : fhM) (h : f_X12_guestTold v1 σ = some o) (hk : (fun o => fhRet Γ none o) o) : fhW fhYM Γ 0 [(0, .ref 0), (1, .int v1)] [] σ := by
  unfold f_X12_guestTold at h
  refine fhW.blk fhPM fhLL hΓ [(.aload_n 0, 0), (.iconst 1, 1), (.iconst 5, 5), (.iload_n 1, 0)] (pc' := 4) (lv' := [(0, .ref 0), (1, .int v1)]) (st' := [.int v1, .int (5 : Int32), .int (1 : Int32), .ref 0]) (σ' := σ) (by decide +kernel) rfl rfl rfl ?_
  obtain ⟨q1, hb3, h⟩ := Option.bind_eq_some_iff.mp h
  refine fhW.callv hΓ mvX12_isFull ml_12_339 (t := 0) (ci := 12) (av := [.int (1 : Int32), .int (5 : Int32), .int v1]) (rest := []) (r := (some (.int (fhb q1.1)))) (σ' := q1.2) (T_X12_isFull (E := fhEn Γ) (d := fhD Γ - 1) (by omega) (1 : Int32) (5 : Int32) v1 σ hb3) (by omega) (by decide +kernel) rfl rfl rfl (Nat.le_of_ble_eq_true rfl) rfl ?_
  show fhW fhYM Γ 7 [(0, .ref 0), (1, .int v1)] [.int (fhb q1.1)] q1.2
  refine fhW.b_eq hΓ (tgt := 11) (show fhbk _ _ (.ifCond .eq (4)) _ = true by decide +kernel) (fun hc => ?_) (fun hc => ?_)
  · rw [if_neg hc] at h
    refine fhW.blk fhPM fhLL hΓ [(.aload_n 0, 0)] (pc' := 12) (lv' := [(0, .ref 0), (1, .int v1)]) (st' := [.ref 0]) (σ' := q1.2) (by decide +kernel) rfl rfl rfl ?_
    obtain ⟨q2, hb4, h⟩ := Option.bind_eq_some_iff.mp h
    refine fhW.callv hΓ mvX12_name ml_12_343 (t := 0) (ci := 12) (av := []) (rest := []) (r := (some (.long q2.1))) (σ' := q2.2) (T_X12_name (E := fhEn Γ) (d := fhD Γ - 1) (by omega) q1.2 hb4) (by omega) (by decide +kernel) rfl rfl rfl (Nat.le_of_ble_eq_true rfl) rfl ?_
    show fhW fhYM Γ 15 [(0, .ref 0), (1, .int v1)] [.long q2.1] q2.2
    refine fhW.blk fhPM fhLL hΓ [(.lstore_n 2, 0), (.iconst 0, 0), (.istore 4, 0)] (pc' := 19) (lv' := [(4, .int (0 : Int32)), (2, .long q2.1), (0, .ref 0), (1, .int v1)]) (st' := []) (σ' := q2.2) (by decide +kernel) rfl rfl rfl ?_
    refine fhW.sub (lv' := [(0, .ref 0), (2, .long q2.1), (4, .int (0 : Int32))]) [2, 1, 0] rfl ?_
    exact fhlp_ok (W := (fun x => fhW fhYM Γ 19 [(0, .ref 0), (2, .long q2.1), (4, .int x.1)] [] x.2)) (B := (fun o => fhRet Γ none o)) (fun x o h hk => L_X12_guestTold_19 hΓ hd q2.1 x.1 x.2 o h hk) ((0 : Int32), q2.2) _ h hk
  · rw [if_pos hc] at h
    have e9 := Option.some.inj h
    subst e9
    exact fhW.vret hΓ (by decide +kernel) hk
set_option maxRecDepth 100000 in
theorem T_X12_guestTold {E : fhE} {d : Nat} (hd : 4 ≤ d) (v1 : Int32)  (σ : fhM) {o : fhM} (h : f_X12_guestTold v1 σ = some o) : fhC fhYM E d miX12_guestTold [.ref 0, .int v1] σ none o := by
  refine fhC.of (y := yX12_guestTold) (cc := cX12_guestTold) (nL := 5) (ret := none) 12 rfl (by decide +kernel) (Nat.le_of_ble_eq_true rfl) ?_
  intro Γ hΓ hR hD hEn
  subst hD; subst hEn
  exact L_X12_guestTold_E hΓ hd v1  σ _ h hR
set_option maxRecDepth 100000 in
set_option maxHeartbeats 4000000 in
theorem L_X12_guestNamed_7 {Γ : fhX} (hΓ : fhOk fhYM 12 cX12_guestNamed 4 (some .int) Γ) (hd : 4 ≤ fhD Γ) (v1 : Int64) (v3 : Int32)  (σ : fhM) (o : (Int32) ⊕ (Int32 × fhM)) (h : f_X12_guestNamed_7 v1 v3 σ = some o) (hk : (fhK (fun x => fhW fhYM Γ 7 [(0, .ref 0), (1, .long v1), (3, .int x)] [] σ) (fun o => fhRet Γ (some (.int o.1)) o.2)) o) : fhW fhYM Γ 7 [(0, .ref 0), (1, .long v1), (3, .int v3)] [] σ := by
  unfold f_X12_guestNamed_7 at h
  refine fhW.blk fhPM fhLL hΓ [(.iload_n 3, 0), (.aload_n 0, 0), (.getfield 99, 0), (.iconst 1, 1), (.iaload, 0)] (pc' := 14) (lv' := [(0, .ref 0), (1, .long v1), (3, .int v3)]) (st' := [.int (σ.1 29 1), .int v3]) (σ' := σ) (by decide +kernel) rfl rfl rfl ?_
  refine fhW.i_ge hΓ (tgt := 36) (show fhbk _ _ (.if_icmp .ge (22)) _ = true by decide +kernel) (fun hc => ?_) (fun hc => ?_)
  · rw [if_pos hc] at h
    refine fhW.blk fhPM fhLL hΓ [(.aload_n 0, 0), (.getfield 262, 0)] (pc' := 40) (lv' := [(0, .ref 0), (1, .long v1), (3, .int v3)]) (st' := [.int (σ.1 0 5)]) (σ' := σ) (by decide +kernel) rfl rfl rfl ?_
    refine fhW.z_ne hΓ (tgt := 52) (show fhbk _ _ (.ifCond .ne (12)) _ = true by decide +kernel) (fun hc => ?_) (fun hc => ?_)
    · rw [if_neg hc] at h
      refine fhW.blk fhPM fhLL hΓ [(.iconst 0, 0)] (pc' := 53) (lv' := [(0, .ref 0), (1, .long v1), (3, .int v3)]) (st' := [.int (0 : Int32)]) (σ' := σ) (by decide +kernel) rfl rfl rfl ?_
      have e9 := Option.some.inj h
      subst e9
      exact fhW.iret hΓ (by decide +kernel) hk
    · rw [if_pos hc] at h
      refine fhW.blk fhPM fhLL hΓ [(.aload_n 0, 0), (.iconst 3, 3), (.aload_n 0, 0), (.getfield 313, 0)] (pc' := 49) (lv' := [(0, .ref 0), (1, .long v1), (3, .int v3)]) (st' := [.int (σ.1 0 37), .int (3 : Int32), .ref 0]) (σ' := σ) (by decide +kernel) rfl rfl rfl ?_
      refine fhW.callv hΓ mvX12_fail ml_12_292 (t := 0) (ci := 12) (av := [.int (3 : Int32), .int (σ.1 0 37)]) (rest := []) (r := none) (σ' := (f_X12_fail (3 : Int32) (σ.1 0 37) σ)) (T_X12_fail (E := fhEn Γ) (d := fhD Γ - 1) (by omega) (3 : Int32) (σ.1 0 37) σ) (by omega) (by decide +kernel) rfl rfl rfl (Nat.le_of_ble_eq_true rfl) rfl ?_
      show fhW fhYM Γ 52 [(0, .ref 0), (1, .long v1), (3, .int v3)] [] (f_X12_fail (3 : Int32) (σ.1 0 37) σ)
      obtain ⟨q2, e1, h⟩ := fhlet_elim h
      rw [← e1]
      refine fhW.blk fhPM fhLL hΓ [(.iconst 0, 0)] (pc' := 53) (lv' := [(0, .ref 0), (1, .long v1), (3, .int v3)]) (st' := [.int (0 : Int32)]) (σ' := q2) (by decide +kernel) rfl rfl rfl ?_
      have e9 := Option.some.inj h
      subst e9
      exact fhW.iret hΓ (by decide +kernel) hk
  · rw [if_neg hc] at h
    obtain ⟨hg1, h⟩ := fhif h
    refine fhW.blk fhPM fhLL hΓ [(.aload_n 0, 0), (.getfield 102, 0), (.iload_n 3, 0), (.laload, 0), (.lload_n 1, 0), (.lcmp, 0)] (pc' := 25) (lv' := [(0, .ref 0), (1, .long v1), (3, .int v3)]) (st' := [.int (lg_cmp (σ.2.1 30 (fhix v3)) v1)]) (σ' := σ) (by decide +kernel) rfl rfl hg1 ?_
    refine fhW.z_ne hΓ (tgt := 30) (show fhbk _ _ (.ifCond .ne (5)) _ = true by decide +kernel) (fun hc => ?_) (fun hc => ?_)
    · rw [if_neg hc] at h
      refine fhW.blk fhPM fhLL hΓ [(.iinc 3 1, 1)] (pc' := 33) (lv' := [(3, .int (v3 + (1 : Int32))), (0, .ref 0), (1, .long v1)]) (st' := []) (σ' := σ) (by decide +kernel) rfl rfl rfl ?_
      refine fhW.goto hΓ (off := (-26)) (tgt := 7) (by decide +kernel) ?_
      refine fhW.sub (lv' := [(0, .ref 0), (1, .long v1), (3, .int (v3 + (1 : Int32)))]) [1, 2, 0] rfl ?_
      have e9 := Option.some.inj h
      subst e9
      exact hk
    · rw [if_pos hc] at h
      refine fhW.blk fhPM fhLL hΓ [(.iload_n 3, 0)] (pc' := 29) (lv' := [(0, .ref 0), (1, .long v1), (3, .int v3)]) (st' := [.int v3]) (σ' := σ) (by decide +kernel) rfl rfl rfl ?_
      have e9 := Option.some.inj h
      subst e9
      exact fhW.iret hΓ (by decide +kernel) hk
set_option maxRecDepth 100000 in
set_option maxHeartbeats 4000000 in
theorem L_X12_guestNamed_E {Γ : fhX} (hΓ : fhOk fhYM 12 cX12_guestNamed 4 (some .int) Γ) (hd : 4 ≤ fhD Γ)   (σ : fhM) (o : Int32 × fhM) (h : f_X12_guestNamed σ = some o) (hk : (fun o => fhRet Γ (some (.int o.1)) o.2) o) : fhW fhYM Γ 0 [(0, .ref 0)] [] σ := by
  unfold f_X12_guestNamed at h
  refine fhW.blk fhPM fhLL hΓ [(.aload_n 0, 0)] (pc' := 1) (lv' := [(0, .ref 0)]) (st' := [.ref 0]) (σ' := σ) (by decide +kernel) rfl rfl rfl ?_
  obtain ⟨q1, hb1, h⟩ := Option.bind_eq_some_iff.mp h
  refine fhW.callv hΓ mvX12_name ml_12_343 (t := 0) (ci := 12) (av := []) (rest := []) (r := (some (.long q1.1))) (σ' := q1.2) (T_X12_name (E := fhEn Γ) (d := fhD Γ - 1) (by omega) σ hb1) (by omega) (by decide +kernel) rfl rfl rfl (Nat.le_of_ble_eq_true rfl) rfl ?_
  show fhW fhYM Γ 4 [(0, .ref 0)] [.long q1.1] q1.2
  refine fhW.blk fhPM fhLL hΓ [(.lstore_n 1, 0), (.iconst 0, 0), (.istore_n 3, 0)] (pc' := 7) (lv' := [(3, .int (0 : Int32)), (1, .long q1.1), (0, .ref 0)]) (st' := []) (σ' := q1.2) (by decide +kernel) rfl rfl rfl ?_
  refine fhW.sub (lv' := [(0, .ref 0), (1, .long q1.1), (3, .int (0 : Int32))]) [2, 1, 0] rfl ?_
  exact fhlp_ok (W := (fun x => fhW fhYM Γ 7 [(0, .ref 0), (1, .long q1.1), (3, .int x)] [] q1.2)) (B := (fun o => fhRet Γ (some (.int o.1)) o.2)) (fun x o h hk => L_X12_guestNamed_7 hΓ hd q1.1 x q1.2 o h hk) (0 : Int32) _ h hk
set_option maxRecDepth 100000 in
theorem T_X12_guestNamed {E : fhE} {d : Nat} (hd : 4 ≤ d)   (σ : fhM) {o : Int32 × fhM} (h : f_X12_guestNamed σ = some o) : fhC fhYM E d miX12_guestNamed [.ref 0] σ (some (.int o.1)) o.2 := by
  refine fhC.of (y := yX12_guestNamed) (cc := cX12_guestNamed) (nL := 4) (ret := (some .int)) 12 rfl (by decide +kernel) (Nat.le_of_ble_eq_true rfl) ?_
  intro Γ hΓ hR hD hEn
  subst hD; subst hEn
  exact L_X12_guestNamed_E hΓ hd   σ _ h hR
set_option maxRecDepth 100000 in
set_option maxHeartbeats 4000000 in
theorem L_X12_blindTold_52 {Γ : fhX} (hΓ : fhOk fhYM 12 cX12_blindTold 3 none Γ) (hd : 5 ≤ fhD Γ) (v1 : Int32) (v2 : Int32)  (σ : fhM) (o : fhM) (h : f_X12_blindTold_52 v1 v2 σ = some o) (hk : (fun o => fhRet Γ none o) o) : fhW fhYM Γ 52 [(0, .ref 0), (1, .int v1), (2, .int v2)] [] σ := by
  unfold f_X12_blindTold_52 at h
  refine fhW.blk fhPM fhLL hΓ [(.aload_n 0, 0), (.getfield 262, 0)] (pc' := 56) (lv' := [(0, .ref 0), (1, .int v1), (2, .int v2)]) (st' := [.int (σ.1 0 5)]) (σ' := σ) (by decide +kernel) rfl rfl rfl ?_
  refine fhW.z_ne hΓ (tgt := 73) (show fhbk _ _ (.ifCond .ne (17)) _ = true by decide +kernel) (fun hc => ?_) (fun hc => ?_)
  · rw [if_neg hc] at h
    have e9 := Option.some.inj h
    subst e9
    exact fhW.vret hΓ (by decide +kernel) hk
  · rw [if_pos hc] at h
    obtain ⟨hg1, h⟩ := fhif h
    refine fhW.blk fhPM fhLL hΓ [(.aload_n 0, 0), (.getfield 109, 0), (.iload_n 1, 0), (.dup2, 0), (.iaload, 0), (.iconst 1, 1), (.iload_n 2, 0), (.ishl, 0), (.iconst (-1), -1), (.ixor, 0), (.iand, 0), (.iastore, 0)] (pc' := 73) (lv' := [(0, .ref 0), (1, .int v1), (2, .int v2)]) (st' := []) (σ' := (fhI σ 32 (fhix v1) ((σ.1 32 (fhix v1)) &&& (((1 : Int32) <<< (v2 &&& 31)) ^^^ (-1 : Int32))))) (by decide +kernel) rfl rfl hg1 ?_
    have e9 := Option.some.inj h
    subst e9
    exact fhW.vret hΓ (by decide +kernel) hk
set_option maxRecDepth 100000 in
set_option maxHeartbeats 4000000 in
theorem L_X12_blindTold_43 {Γ : fhX} (hΓ : fhOk fhYM 12 cX12_blindTold 3 none Γ) (hd : 5 ≤ fhD Γ) (v1 : Int32) (v2 : Int32)  (σ : fhM) (o : fhM) (h : f_X12_blindTold_43 v1 v2 σ = some o) (hk : (fun o => fhRet Γ none o) o) : fhW fhYM Γ 43 [(0, .ref 0), (1, .int v1), (2, .int v2)] [] σ := by
  unfold f_X12_blindTold_43 at h
  refine fhW.blk fhPM fhLL hΓ [(.aload_n 0, 0), (.iconst 3, 3), (.aload_n 0, 0), (.getfield 313, 0)] (pc' := 49) (lv' := [(0, .ref 0), (1, .int v1), (2, .int v2)]) (st' := [.int (σ.1 0 37), .int (3 : Int32), .ref 0]) (σ' := σ) (by decide +kernel) rfl rfl rfl ?_
  refine fhW.callv hΓ mvX12_fail ml_12_292 (t := 0) (ci := 12) (av := [.int (3 : Int32), .int (σ.1 0 37)]) (rest := []) (r := none) (σ' := (f_X12_fail (3 : Int32) (σ.1 0 37) σ)) (T_X12_fail (E := fhEn Γ) (d := fhD Γ - 1) (by omega) (3 : Int32) (σ.1 0 37) σ) (by omega) (by decide +kernel) rfl rfl rfl (Nat.le_of_ble_eq_true rfl) rfl ?_
  show fhW fhYM Γ 52 [(0, .ref 0), (1, .int v1), (2, .int v2)] [] (f_X12_fail (3 : Int32) (σ.1 0 37) σ)
  obtain ⟨q4, e1, h⟩ := fhlet_elim h
  rw [← e1]
  refine fhW.sub (lv' := [(0, .ref 0), (1, .int v1), (2, .int v2)]) [0, 1, 2] rfl ?_
  exact L_X12_blindTold_52 hΓ hd v1 v2 q4 _ h hk
set_option maxRecDepth 100000 in
set_option maxHeartbeats 4000000 in
theorem L_X12_blindTold_E {Γ : fhX} (hΓ : fhOk fhYM 12 cX12_blindTold 3 none Γ) (hd : 5 ≤ fhD Γ)   (σ : fhM) (o : fhM) (h : f_X12_blindTold σ = some o) (hk : (fun o => fhRet Γ none o) o) : fhW fhYM Γ 0 [(0, .ref 0)] [] σ := by
  unfold f_X12_blindTold at h
  refine fhW.blk fhPM fhLL hΓ [(.aload_n 0, 0)] (pc' := 1) (lv' := [(0, .ref 0)]) (st' := [.ref 0]) (σ' := σ) (by decide +kernel) rfl rfl rfl ?_
  obtain ⟨q1, hb1, h⟩ := Option.bind_eq_some_iff.mp h
  refine fhW.callv hΓ mvX12_guestNamed ml_12_347 (t := 0) (ci := 12) (av := []) (rest := []) (r := (some (.int q1.1))) (σ' := q1.2) (T_X12_guestNamed (E := fhEn Γ) (d := fhD Γ - 1) (by omega) σ hb1) (by omega) (by decide +kernel) rfl rfl rfl (Nat.le_of_ble_eq_true rfl) rfl ?_
  show fhW fhYM Γ 4 [(0, .ref 0)] [.int q1.1] q1.2
  refine fhW.blk fhPM fhLL hΓ [(.istore_n 1, 0), (.aload_n 0, 0), (.aload_n 0, 0), (.getfield 33, 0)] (pc' := 10) (lv' := [(1, .int q1.1), (0, .ref 0)]) (st' := [.ref 7, .ref 0]) (σ' := q1.2) (by decide +kernel) rfl rfl rfl ?_
  obtain ⟨q2, hb2, h⟩ := Option.bind_eq_some_iff.mp h
  refine fhW.callv hΓ mvX12_asks ml_12_327 (t := 0) (ci := 12) (av := [.ref 7]) (rest := []) (r := none) (σ' := q2) (T_X12_asks (E := fhEn Γ) (d := fhD Γ - 1) (by omega) 7 rfl q1.2 hb2) (by omega) (by decide +kernel) rfl rfl rfl (Nat.le_of_ble_eq_true rfl) rfl ?_
  show fhW fhYM Γ 13 [(1, .int q1.1), (0, .ref 0)] [] q2
  refine fhW.blk fhPM fhLL hΓ [(.aload_n 0, 0)] (pc' := 14) (lv' := [(1, .int q1.1), (0, .ref 0)]) (st' := [.ref 0]) (σ' := q2) (by decide +kernel) rfl rfl rfl ?_
  obtain ⟨q3, hb3, h⟩ := Option.bind_eq_some_iff.mp h
  refine fhW.callv hΓ mvX12_guestNamed ml_12_347 (t := 0) (ci := 12) (av := []) (rest := []) (r := (some (.int q3.1))) (σ' := q3.2) (T_X12_guestNamed (E := fhEn Γ) (d := fhD Γ - 1) (by omega) q2 hb3) (by omega) (by decide +kernel) rfl rfl rfl (Nat.le_of_ble_eq_true rfl) rfl ?_
  show fhW fhYM Γ 17 [(1, .int q1.1), (0, .ref 0)] [.int q3.1] q3.2
  refine fhW.blk fhPM fhLL hΓ [(.istore_n 2, 0), (.aload_n 0, 0), (.getfield 262, 0)] (pc' := 22) (lv' := [(2, .int q3.1), (1, .int q1.1), (0, .ref 0)]) (st' := [.int (q3.2.1 0 5)]) (σ' := q3.2) (by decide +kernel) rfl rfl rfl ?_
  refine fhW.z_ne hΓ (tgt := 52) (show fhbk _ _ (.ifCond .ne (30)) _ = true by decide +kernel) (fun hc => ?_) (fun hc => ?_)
  · rw [if_neg hc] at h
    refine fhW.sub (lv' := [(0, .ref 0), (1, .int q1.1), (2, .int q3.1)]) [2, 1, 0] rfl ?_
    exact L_X12_blindTold_52 hΓ hd q1.1 q3.1 q3.2 _ h hk
  · rw [if_pos hc] at h
    refine fhW.blk fhPM fhLL hΓ [(.iload_n 1, 0), (.iload_n 2, 0)] (pc' := 27) (lv' := [(2, .int q3.1), (1, .int q1.1), (0, .ref 0)]) (st' := [.int q3.1, .int q1.1]) (σ' := q3.2) (by decide +kernel) rfl rfl rfl ?_
    refine fhW.i_eq hΓ (tgt := 43) (show fhbk _ _ (.if_icmp .eq (16)) _ = true by decide +kernel) (fun hc => ?_) (fun hc => ?_)
    · rw [if_pos hc] at h
      refine fhW.sub (lv' := [(0, .ref 0), (1, .int q1.1), (2, .int q3.1)]) [2, 1, 0] rfl ?_
      exact L_X12_blindTold_43 hΓ hd q1.1 q3.1 q3.2 _ h hk
    · rw [if_neg hc] at h
      obtain ⟨hg2, h⟩ := fhif h
      refine fhW.blk fhPM fhLL hΓ [(.aload_n 0, 0), (.getfield 109, 0), (.iload_n 1, 0), (.iaload, 0), (.iload_n 2, 0), (.ishr, 0), (.iconst 1, 1), (.iand, 0)] (pc' := 40) (lv' := [(2, .int q3.1), (1, .int q1.1), (0, .ref 0)]) (st' := [.int (((q3.2.1 32 (fhix q1.1)) >>> (q3.1 &&& 31)) &&& (1 : Int32))]) (σ' := q3.2) (by decide +kernel) rfl rfl hg2 ?_
      refine fhW.z_ne hΓ (tgt := 52) (show fhbk _ _ (.ifCond .ne (12)) _ = true by decide +kernel) (fun hc => ?_) (fun hc => ?_)
      · rw [if_neg hc] at h
        refine fhW.sub (lv' := [(0, .ref 0), (1, .int q1.1), (2, .int q3.1)]) [2, 1, 0] rfl ?_
        exact L_X12_blindTold_52 hΓ hd q1.1 q3.1 q3.2 _ h hk
      · rw [if_pos hc] at h
        refine fhW.sub (lv' := [(0, .ref 0), (1, .int q1.1), (2, .int q3.1)]) [2, 1, 0] rfl ?_
        exact L_X12_blindTold_43 hΓ hd q1.1 q3.1 q3.2 _ h hk
set_option maxRecDepth 100000 in
theorem T_X12_blindTold {E : fhE} {d : Nat} (hd : 5 ≤ d)   (σ : fhM) {o : fhM} (h : f_X12_blindTold σ = some o) : fhC fhYM E d miX12_blindTold [.ref 0] σ none o := by
  refine fhC.of (y := yX12_blindTold) (cc := cX12_blindTold) (nL := 3) (ret := none) 12 rfl (by decide +kernel) (Nat.le_of_ble_eq_true rfl) ?_
  intro Γ hΓ hR hD hEn
  subst hD; subst hEn
  exact L_X12_blindTold_E hΓ hd   σ _ h hR
set_option maxRecDepth 100000 in
set_option maxHeartbeats 4000000 in
theorem L_X12_qOpens_E {Γ : fhX} (hΓ : fhOk fhYM 12 cX12_qOpens 3 none Γ) (hd : 1 ≤ fhD Γ) (v1 : Int32) (v2 : Int32)  (σ : fhM) (o : fhM) (h : f_X12_qOpens v1 v2 σ = some o) (hk : (fun o => fhRet Γ none o) o) : fhW fhYM Γ 0 [(0, .ref 0), (1, .int v1), (2, .int v2)] [] σ := by
  unfold f_X12_qOpens at h
  refine fhW.blk fhPM fhLL hΓ [(.aload_n 0, 0), (.getfield 262, 0)] (pc' := 4) (lv' := [(0, .ref 0), (1, .int v1), (2, .int v2)]) (st' := [.int (σ.1 0 5)]) (σ' := σ) (by decide +kernel) rfl rfl rfl ?_
  refine fhW.z_eq hΓ (tgt := 8) (show fhbk _ _ (.ifCond .eq (4)) _ = true by decide +kernel) (fun hc => ?_) (fun hc => ?_)
  · rw [if_pos hc] at h
    refine fhW.blk fhPM fhLL hΓ [(.aload_n 0, 0), (.getfield 356, 0), (.bipush 6, 6)] (pc' := 14) (lv' := [(0, .ref 0), (1, .int v1), (2, .int v2)]) (st' := [.int (6 : Int32), .int (σ.1 0 102)]) (σ' := σ) (by decide +kernel) rfl rfl rfl ?_
    refine fhW.i_ne hΓ (tgt := 24) (show fhbk _ _ (.if_icmp .ne (10)) _ = true by decide +kernel) (fun hc => ?_) (fun hc => ?_)
    · rw [if_neg hc] at h
      obtain ⟨hg1, h⟩ := fhif h
      refine fhW.blk fhPM fhLL hΓ [(.aload_n 0, 0), (.dup, 0), (.getfield 356, 0), (.iconst 1, 1), (.iadd, 0), (.putfield 356, 0), (.aload_n 0, 0), (.getfield 250, 0), (.aload_n 0, 0), (.getfield 353, 0), (.iload_n 1, 0), (.iastore, 0), (.aload_n 0, 0), (.dup, 0), (.getfield 353, 0), (.iconst 1, 1), (.iadd, 0), (.putfield 353, 0)] (pc' := 54) (lv' := [(0, .ref 0), (1, .int v1), (2, .int v2)]) (st' := []) (σ' := (fhI (fhI (fhI σ 0 102 ((σ.1 0 102) + (1 : Int32))) 77 (fhix (σ.1 0 101)) v1) 0 101 ((σ.1 0 101) + (1 : Int32)))) (by decide +kernel) rfl rfl hg1 ?_
      have e9 := Option.some.inj h
      subst e9
      exact fhW.vret hΓ (by decide +kernel) hk
    · rw [if_pos hc] at h
      refine fhW.blk fhPM fhLL hΓ [(.aload_n 0, 0), (.iconst 4, 4), (.iload_n 2, 0)] (pc' := 20) (lv' := [(0, .ref 0), (1, .int v1), (2, .int v2)]) (st' := [.int v2, .int (4 : Int32), .ref 0]) (σ' := σ) (by decide +kernel) rfl rfl rfl ?_
      refine fhW.callv hΓ mvX12_fail ml_12_292 (t := 0) (ci := 12) (av := [.int (4 : Int32), .int v2]) (rest := []) (r := none) (σ' := (f_X12_fail (4 : Int32) v2 σ)) (T_X12_fail (E := fhEn Γ) (d := fhD Γ - 1) (by omega) (4 : Int32) v2 σ) (by omega) (by decide +kernel) rfl rfl rfl (Nat.le_of_ble_eq_true rfl) rfl ?_
      show fhW fhYM Γ 23 [(0, .ref 0), (1, .int v1), (2, .int v2)] [] (f_X12_fail (4 : Int32) v2 σ)
      obtain ⟨q1, e1, h⟩ := fhlet_elim h
      rw [← e1]
      have e9 := Option.some.inj h
      subst e9
      exact fhW.vret hΓ (by decide +kernel) hk
  · rw [if_neg hc] at h
    have e9 := Option.some.inj h
    subst e9
    exact fhW.vret hΓ (by decide +kernel) hk
set_option maxRecDepth 100000 in
theorem T_X12_qOpens {E : fhE} {d : Nat} (hd : 1 ≤ d) (v1 : Int32) (v2 : Int32)  (σ : fhM) {o : fhM} (h : f_X12_qOpens v1 v2 σ = some o) : fhC fhYM E d miX12_qOpens [.ref 0, .int v1, .int v2] σ none o := by
  refine fhC.of (y := yX12_qOpens) (cc := cX12_qOpens) (nL := 3) (ret := none) 12 rfl (by decide +kernel) (Nat.le_of_ble_eq_true rfl) ?_
  intro Γ hΓ hR hD hEn
  subst hD; subst hEn
  exact L_X12_qOpens_E hΓ hd v1 v2  σ _ h hR
set_option maxRecDepth 100000 in
set_option maxHeartbeats 4000000 in
theorem L_X12_qCode_E {Γ : fhX} (hΓ : fhOk fhYM 12 cX12_qCode 2 none Γ) (hd : 0 ≤ fhD Γ) (v1 : Int32)  (σ : fhM) (o : fhM) (h : f_X12_qCode v1 σ = some o) (hk : (fun o => fhRet Γ none o) o) : fhW fhYM Γ 0 [(0, .ref 0), (1, .int v1)] [] σ := by
  unfold f_X12_qCode at h
  obtain ⟨hg1, h⟩ := fhif h
  refine fhW.blk fhPM fhLL hΓ [(.aload_n 0, 0), (.getfield 247, 0), (.aload_n 0, 0), (.getfield 350, 0), (.iload_n 1, 0), (.iastore, 0), (.aload_n 0, 0), (.dup, 0), (.getfield 350, 0), (.iconst 1, 1), (.iadd, 0), (.putfield 350, 0)] (pc' := 20) (lv' := [(0, .ref 0), (1, .int v1)]) (st' := []) (σ' := (fhI (fhI σ 76 (fhix (σ.1 0 99)) v1) 0 99 ((σ.1 0 99) + (1 : Int32)))) (by decide +kernel) rfl rfl hg1 ?_
  have e9 := Option.some.inj h
  subst e9
  exact fhW.vret hΓ (by decide +kernel) hk
set_option maxRecDepth 100000 in
theorem T_X12_qCode {E : fhE} {d : Nat} (hd : 0 ≤ d) (v1 : Int32)  (σ : fhM) {o : fhM} (h : f_X12_qCode v1 σ = some o) : fhC fhYM E d miX12_qCode [.ref 0, .int v1] σ none o := by
  refine fhC.of (y := yX12_qCode) (cc := cX12_qCode) (nL := 2) (ret := none) 12 rfl (by decide +kernel) (Nat.le_of_ble_eq_true rfl) ?_
  intro Γ hΓ hR hD hEn
  subst hD; subst hEn
  exact L_X12_qCode_E hΓ hd v1  σ _ h hR
set_option maxRecDepth 100000 in
set_option maxHeartbeats 4000000 in
theorem L_X12_qWordHere_E {Γ : fhX} (hΓ : fhOk fhYM 12 cX12_qWordHere 1 (some .int) Γ) (hd : 2 ≤ fhD Γ)   (σ : fhM) (o : Int32 × fhM) (h : f_X12_qWordHere σ = some o) (hk : (fun o => fhRet Γ (some (.int o.1)) o.2) o) : fhW fhYM Γ 0 [(0, .ref 0)] [] σ := by
  unfold f_X12_qWordHere at h
  refine fhW.blk fhPM fhLL hΓ [(.aload_n 0, 0), (.aload_n 0, 0), (.getfield 211, 0)] (pc' := 5) (lv' := [(0, .ref 0)]) (st' := [.ref 64, .ref 0]) (σ' := σ) (by decide +kernel) rfl rfl rfl ?_
  obtain ⟨q1, hb1, h⟩ := Option.bind_eq_some_iff.mp h
  refine fhW.callv hΓ mvX12_isHere ml_12_285 (t := 0) (ci := 12) (av := [.ref 64]) (rest := []) (r := (some (.int (fhb q1.1)))) (σ' := q1.2) (T_X12_isHere (E := fhEn Γ) (d := fhD Γ - 1) (by omega) 64 rfl σ hb1) (by omega) (by decide +kernel) rfl rfl rfl (Nat.le_of_ble_eq_true rfl) rfl ?_
  show fhW fhYM Γ 8 [(0, .ref 0)] [.int (fhb q1.1)] q1.2
  refine fhW.b_eq hΓ (tgt := 13) (show fhbk _ _ (.ifCond .eq (5)) _ = true by decide +kernel) (fun hc => ?_) (fun hc => ?_)
  · rw [if_neg hc] at h
    refine fhW.blk fhPM fhLL hΓ [(.aload_n 0, 0), (.aload_n 0, 0), (.getfield 214, 0)] (pc' := 18) (lv' := [(0, .ref 0)]) (st' := [.ref 65, .ref 0]) (σ' := q1.2) (by decide +kernel) rfl rfl rfl ?_
    obtain ⟨q2, hb2, h⟩ := Option.bind_eq_some_iff.mp h
    refine fhW.callv hΓ mvX12_isHere ml_12_285 (t := 0) (ci := 12) (av := [.ref 65]) (rest := []) (r := (some (.int (fhb q2.1)))) (σ' := q2.2) (T_X12_isHere (E := fhEn Γ) (d := fhD Γ - 1) (by omega) 65 rfl q1.2 hb2) (by omega) (by decide +kernel) rfl rfl rfl (Nat.le_of_ble_eq_true rfl) rfl ?_
    show fhW fhYM Γ 21 [(0, .ref 0)] [.int (fhb q2.1)] q2.2
    refine fhW.b_eq hΓ (tgt := 26) (show fhbk _ _ (.ifCond .eq (5)) _ = true by decide +kernel) (fun hc => ?_) (fun hc => ?_)
    · rw [if_neg hc] at h
      refine fhW.blk fhPM fhLL hΓ [(.aload_n 0, 0), (.aload_n 0, 0), (.getfield 217, 0)] (pc' := 31) (lv' := [(0, .ref 0)]) (st' := [.ref 66, .ref 0]) (σ' := q2.2) (by decide +kernel) rfl rfl rfl ?_
      obtain ⟨q3, hb3, h⟩ := Option.bind_eq_some_iff.mp h
      refine fhW.callv hΓ mvX12_isHere ml_12_285 (t := 0) (ci := 12) (av := [.ref 66]) (rest := []) (r := (some (.int (fhb q3.1)))) (σ' := q3.2) (T_X12_isHere (E := fhEn Γ) (d := fhD Γ - 1) (by omega) 66 rfl q2.2 hb3) (by omega) (by decide +kernel) rfl rfl rfl (Nat.le_of_ble_eq_true rfl) rfl ?_
      show fhW fhYM Γ 34 [(0, .ref 0)] [.int (fhb q3.1)] q3.2
      refine fhW.b_eq hΓ (tgt := 39) (show fhbk _ _ (.ifCond .eq (5)) _ = true by decide +kernel) (fun hc => ?_) (fun hc => ?_)
      · rw [if_neg hc] at h
        refine fhW.blk fhPM fhLL hΓ [(.aload_n 0, 0), (.aload_n 0, 0), (.getfield 220, 0)] (pc' := 44) (lv' := [(0, .ref 0)]) (st' := [.ref 67, .ref 0]) (σ' := q3.2) (by decide +kernel) rfl rfl rfl ?_
        obtain ⟨q4, hb4, h⟩ := Option.bind_eq_some_iff.mp h
        refine fhW.callv hΓ mvX12_isHere ml_12_285 (t := 0) (ci := 12) (av := [.ref 67]) (rest := []) (r := (some (.int (fhb q4.1)))) (σ' := q4.2) (T_X12_isHere (E := fhEn Γ) (d := fhD Γ - 1) (by omega) 67 rfl q3.2 hb4) (by omega) (by decide +kernel) rfl rfl rfl (Nat.le_of_ble_eq_true rfl) rfl ?_
        show fhW fhYM Γ 47 [(0, .ref 0)] [.int (fhb q4.1)] q4.2
        refine fhW.b_eq hΓ (tgt := 52) (show fhbk _ _ (.ifCond .eq (5)) _ = true by decide +kernel) (fun hc => ?_) (fun hc => ?_)
        · rw [if_neg hc] at h
          refine fhW.blk fhPM fhLL hΓ [(.aload_n 0, 0), (.aload_n 0, 0), (.getfield 223, 0)] (pc' := 57) (lv' := [(0, .ref 0)]) (st' := [.ref 68, .ref 0]) (σ' := q4.2) (by decide +kernel) rfl rfl rfl ?_
          obtain ⟨q5, hb5, h⟩ := Option.bind_eq_some_iff.mp h
          refine fhW.callv hΓ mvX12_isHere ml_12_285 (t := 0) (ci := 12) (av := [.ref 68]) (rest := []) (r := (some (.int (fhb q5.1)))) (σ' := q5.2) (T_X12_isHere (E := fhEn Γ) (d := fhD Γ - 1) (by omega) 68 rfl q4.2 hb5) (by omega) (by decide +kernel) rfl rfl rfl (Nat.le_of_ble_eq_true rfl) rfl ?_
          show fhW fhYM Γ 60 [(0, .ref 0)] [.int (fhb q5.1)] q5.2
          refine fhW.b_eq hΓ (tgt := 65) (show fhbk _ _ (.ifCond .eq (5)) _ = true by decide +kernel) (fun hc => ?_) (fun hc => ?_)
          · rw [if_neg hc] at h
            refine fhW.blk fhPM fhLL hΓ [(.aload_n 0, 0), (.aload_n 0, 0), (.getfield 226, 0)] (pc' := 70) (lv' := [(0, .ref 0)]) (st' := [.ref 69, .ref 0]) (σ' := q5.2) (by decide +kernel) rfl rfl rfl ?_
            obtain ⟨q6, hb6, h⟩ := Option.bind_eq_some_iff.mp h
            refine fhW.callv hΓ mvX12_isHere ml_12_285 (t := 0) (ci := 12) (av := [.ref 69]) (rest := []) (r := (some (.int (fhb q6.1)))) (σ' := q6.2) (T_X12_isHere (E := fhEn Γ) (d := fhD Γ - 1) (by omega) 69 rfl q5.2 hb6) (by omega) (by decide +kernel) rfl rfl rfl (Nat.le_of_ble_eq_true rfl) rfl ?_
            show fhW fhYM Γ 73 [(0, .ref 0)] [.int (fhb q6.1)] q6.2
            refine fhW.b_eq hΓ (tgt := 78) (show fhbk _ _ (.ifCond .eq (5)) _ = true by decide +kernel) (fun hc => ?_) (fun hc => ?_)
            · rw [if_neg hc] at h
              refine fhW.blk fhPM fhLL hΓ [(.aload_n 0, 0), (.aload_n 0, 0), (.getfield 229, 0)] (pc' := 83) (lv' := [(0, .ref 0)]) (st' := [.ref 70, .ref 0]) (σ' := q6.2) (by decide +kernel) rfl rfl rfl ?_
              obtain ⟨q7, hb7, h⟩ := Option.bind_eq_some_iff.mp h
              refine fhW.callv hΓ mvX12_isHere ml_12_285 (t := 0) (ci := 12) (av := [.ref 70]) (rest := []) (r := (some (.int (fhb q7.1)))) (σ' := q7.2) (T_X12_isHere (E := fhEn Γ) (d := fhD Γ - 1) (by omega) 70 rfl q6.2 hb7) (by omega) (by decide +kernel) rfl rfl rfl (Nat.le_of_ble_eq_true rfl) rfl ?_
              show fhW fhYM Γ 86 [(0, .ref 0)] [.int (fhb q7.1)] q7.2
              refine fhW.b_eq hΓ (tgt := 92) (show fhbk _ _ (.ifCond .eq (6)) _ = true by decide +kernel) (fun hc => ?_) (fun hc => ?_)
              · rw [if_neg hc] at h
                refine fhW.blk fhPM fhLL hΓ [(.aload_n 0, 0), (.aload_n 0, 0), (.getfield 232, 0)] (pc' := 97) (lv' := [(0, .ref 0)]) (st' := [.ref 71, .ref 0]) (σ' := q7.2) (by decide +kernel) rfl rfl rfl ?_
                obtain ⟨q8, hb8, h⟩ := Option.bind_eq_some_iff.mp h
                refine fhW.callv hΓ mvX12_isHere ml_12_285 (t := 0) (ci := 12) (av := [.ref 71]) (rest := []) (r := (some (.int (fhb q8.1)))) (σ' := q8.2) (T_X12_isHere (E := fhEn Γ) (d := fhD Γ - 1) (by omega) 71 rfl q7.2 hb8) (by omega) (by decide +kernel) rfl rfl rfl (Nat.le_of_ble_eq_true rfl) rfl ?_
                show fhW fhYM Γ 100 [(0, .ref 0)] [.int (fhb q8.1)] q8.2
                refine fhW.b_eq hΓ (tgt := 106) (show fhbk _ _ (.ifCond .eq (6)) _ = true by decide +kernel) (fun hc => ?_) (fun hc => ?_)
                · rw [if_neg hc] at h
                  refine fhW.blk fhPM fhLL hΓ [(.aload_n 0, 0), (.aload_n 0, 0), (.getfield 235, 0)] (pc' := 111) (lv' := [(0, .ref 0)]) (st' := [.ref 72, .ref 0]) (σ' := q8.2) (by decide +kernel) rfl rfl rfl ?_
                  obtain ⟨q9, hb9, h⟩ := Option.bind_eq_some_iff.mp h
                  refine fhW.callv hΓ mvX12_isHere ml_12_285 (t := 0) (ci := 12) (av := [.ref 72]) (rest := []) (r := (some (.int (fhb q9.1)))) (σ' := q9.2) (T_X12_isHere (E := fhEn Γ) (d := fhD Γ - 1) (by omega) 72 rfl q8.2 hb9) (by omega) (by decide +kernel) rfl rfl rfl (Nat.le_of_ble_eq_true rfl) rfl ?_
                  show fhW fhYM Γ 114 [(0, .ref 0)] [.int (fhb q9.1)] q9.2
                  refine fhW.b_eq hΓ (tgt := 120) (show fhbk _ _ (.ifCond .eq (6)) _ = true by decide +kernel) (fun hc => ?_) (fun hc => ?_)
                  · rw [if_neg hc] at h
                    refine fhW.blk fhPM fhLL hΓ [(.aload_n 0, 0), (.aload_n 0, 0), (.getfield 238, 0)] (pc' := 125) (lv' := [(0, .ref 0)]) (st' := [.ref 73, .ref 0]) (σ' := q9.2) (by decide +kernel) rfl rfl rfl ?_
                    obtain ⟨q10, hb10, h⟩ := Option.bind_eq_some_iff.mp h
                    refine fhW.callv hΓ mvX12_isHere ml_12_285 (t := 0) (ci := 12) (av := [.ref 73]) (rest := []) (r := (some (.int (fhb q10.1)))) (σ' := q10.2) (T_X12_isHere (E := fhEn Γ) (d := fhD Γ - 1) (by omega) 73 rfl q9.2 hb10) (by omega) (by decide +kernel) rfl rfl rfl (Nat.le_of_ble_eq_true rfl) rfl ?_
                    show fhW fhYM Γ 128 [(0, .ref 0)] [.int (fhb q10.1)] q10.2
                    refine fhW.b_eq hΓ (tgt := 134) (show fhbk _ _ (.ifCond .eq (6)) _ = true by decide +kernel) (fun hc => ?_) (fun hc => ?_)
                    · rw [if_neg hc] at h
                      refine fhW.blk fhPM fhLL hΓ [(.aload_n 0, 0), (.aload_n 0, 0), (.getfield 241, 0)] (pc' := 139) (lv' := [(0, .ref 0)]) (st' := [.ref 74, .ref 0]) (σ' := q10.2) (by decide +kernel) rfl rfl rfl ?_
                      obtain ⟨q11, hb11, h⟩ := Option.bind_eq_some_iff.mp h
                      refine fhW.callv hΓ mvX12_isHere ml_12_285 (t := 0) (ci := 12) (av := [.ref 74]) (rest := []) (r := (some (.int (fhb q11.1)))) (σ' := q11.2) (T_X12_isHere (E := fhEn Γ) (d := fhD Γ - 1) (by omega) 74 rfl q10.2 hb11) (by omega) (by decide +kernel) rfl rfl rfl (Nat.le_of_ble_eq_true rfl) rfl ?_
                      show fhW fhYM Γ 142 [(0, .ref 0)] [.int (fhb q11.1)] q11.2
                      refine fhW.b_eq hΓ (tgt := 148) (show fhbk _ _ (.ifCond .eq (6)) _ = true by decide +kernel) (fun hc => ?_) (fun hc => ?_)
                      · rw [if_neg hc] at h
                        refine fhW.blk fhPM fhLL hΓ [(.aload_n 0, 0), (.aload_n 0, 0), (.getfield 244, 0)] (pc' := 153) (lv' := [(0, .ref 0)]) (st' := [.ref 75, .ref 0]) (σ' := q11.2) (by decide +kernel) rfl rfl rfl ?_
                        obtain ⟨q12, hb12, h⟩ := Option.bind_eq_some_iff.mp h
                        refine fhW.callv hΓ mvX12_isHere ml_12_285 (t := 0) (ci := 12) (av := [.ref 75]) (rest := []) (r := (some (.int (fhb q12.1)))) (σ' := q12.2) (T_X12_isHere (E := fhEn Γ) (d := fhD Γ - 1) (by omega) 75 rfl q11.2 hb12) (by omega) (by decide +kernel) rfl rfl rfl (Nat.le_of_ble_eq_true rfl) rfl ?_
                        show fhW fhYM Γ 156 [(0, .ref 0)] [.int (fhb q12.1)] q12.2
                        refine fhW.b_eq hΓ (tgt := 162) (show fhbk _ _ (.ifCond .eq (6)) _ = true by decide +kernel) (fun hc => ?_) (fun hc => ?_)
                        · rw [if_neg hc] at h
                          refine fhW.blk fhPM fhLL hΓ [(.iconst (-1), -1)] (pc' := 163) (lv' := [(0, .ref 0)]) (st' := [.int (-1 : Int32)]) (σ' := q12.2) (by decide +kernel) rfl rfl rfl ?_
                          have e9 := Option.some.inj h
                          subst e9
                          exact fhW.iret hΓ (by decide +kernel) hk
                        · rw [if_pos hc] at h
                          refine fhW.blk fhPM fhLL hΓ [(.bipush 11, 11)] (pc' := 161) (lv' := [(0, .ref 0)]) (st' := [.int (11 : Int32)]) (σ' := q12.2) (by decide +kernel) rfl rfl rfl ?_
                          have e9 := Option.some.inj h
                          subst e9
                          exact fhW.iret hΓ (by decide +kernel) hk
                      · rw [if_pos hc] at h
                        refine fhW.blk fhPM fhLL hΓ [(.bipush 10, 10)] (pc' := 147) (lv' := [(0, .ref 0)]) (st' := [.int (10 : Int32)]) (σ' := q11.2) (by decide +kernel) rfl rfl rfl ?_
                        have e9 := Option.some.inj h
                        subst e9
                        exact fhW.iret hΓ (by decide +kernel) hk
                    · rw [if_pos hc] at h
                      refine fhW.blk fhPM fhLL hΓ [(.bipush 9, 9)] (pc' := 133) (lv' := [(0, .ref 0)]) (st' := [.int (9 : Int32)]) (σ' := q10.2) (by decide +kernel) rfl rfl rfl ?_
                      have e9 := Option.some.inj h
                      subst e9
                      exact fhW.iret hΓ (by decide +kernel) hk
                  · rw [if_pos hc] at h
                    refine fhW.blk fhPM fhLL hΓ [(.bipush 8, 8)] (pc' := 119) (lv' := [(0, .ref 0)]) (st' := [.int (8 : Int32)]) (σ' := q9.2) (by decide +kernel) rfl rfl rfl ?_
                    have e9 := Option.some.inj h
                    subst e9
                    exact fhW.iret hΓ (by decide +kernel) hk
                · rw [if_pos hc] at h
                  refine fhW.blk fhPM fhLL hΓ [(.bipush 7, 7)] (pc' := 105) (lv' := [(0, .ref 0)]) (st' := [.int (7 : Int32)]) (σ' := q8.2) (by decide +kernel) rfl rfl rfl ?_
                  have e9 := Option.some.inj h
                  subst e9
                  exact fhW.iret hΓ (by decide +kernel) hk
              · rw [if_pos hc] at h
                refine fhW.blk fhPM fhLL hΓ [(.bipush 6, 6)] (pc' := 91) (lv' := [(0, .ref 0)]) (st' := [.int (6 : Int32)]) (σ' := q7.2) (by decide +kernel) rfl rfl rfl ?_
                have e9 := Option.some.inj h
                subst e9
                exact fhW.iret hΓ (by decide +kernel) hk
            · rw [if_pos hc] at h
              refine fhW.blk fhPM fhLL hΓ [(.iconst 5, 5)] (pc' := 77) (lv' := [(0, .ref 0)]) (st' := [.int (5 : Int32)]) (σ' := q6.2) (by decide +kernel) rfl rfl rfl ?_
              have e9 := Option.some.inj h
              subst e9
              exact fhW.iret hΓ (by decide +kernel) hk
          · rw [if_pos hc] at h
            refine fhW.blk fhPM fhLL hΓ [(.iconst 4, 4)] (pc' := 64) (lv' := [(0, .ref 0)]) (st' := [.int (4 : Int32)]) (σ' := q5.2) (by decide +kernel) rfl rfl rfl ?_
            have e9 := Option.some.inj h
            subst e9
            exact fhW.iret hΓ (by decide +kernel) hk
        · rw [if_pos hc] at h
          refine fhW.blk fhPM fhLL hΓ [(.iconst 3, 3)] (pc' := 51) (lv' := [(0, .ref 0)]) (st' := [.int (3 : Int32)]) (σ' := q4.2) (by decide +kernel) rfl rfl rfl ?_
          have e9 := Option.some.inj h
          subst e9
          exact fhW.iret hΓ (by decide +kernel) hk
      · rw [if_pos hc] at h
        refine fhW.blk fhPM fhLL hΓ [(.iconst 2, 2)] (pc' := 38) (lv' := [(0, .ref 0)]) (st' := [.int (2 : Int32)]) (σ' := q3.2) (by decide +kernel) rfl rfl rfl ?_
        have e9 := Option.some.inj h
        subst e9
        exact fhW.iret hΓ (by decide +kernel) hk
    · rw [if_pos hc] at h
      refine fhW.blk fhPM fhLL hΓ [(.iconst 1, 1)] (pc' := 25) (lv' := [(0, .ref 0)]) (st' := [.int (1 : Int32)]) (σ' := q2.2) (by decide +kernel) rfl rfl rfl ?_
      have e9 := Option.some.inj h
      subst e9
      exact fhW.iret hΓ (by decide +kernel) hk
  · rw [if_pos hc] at h
    refine fhW.blk fhPM fhLL hΓ [(.iconst 0, 0)] (pc' := 12) (lv' := [(0, .ref 0)]) (st' := [.int (0 : Int32)]) (σ' := q1.2) (by decide +kernel) rfl rfl rfl ?_
    have e9 := Option.some.inj h
    subst e9
    exact fhW.iret hΓ (by decide +kernel) hk
set_option maxRecDepth 100000 in
theorem T_X12_qWordHere {E : fhE} {d : Nat} (hd : 2 ≤ d)   (σ : fhM) {o : Int32 × fhM} (h : f_X12_qWordHere σ = some o) : fhC fhYM E d miX12_qWordHere [.ref 0] σ (some (.int o.1)) o.2 := by
  refine fhC.of (y := yX12_qWordHere) (cc := cX12_qWordHere) (nL := 1) (ret := (some .int)) 12 rfl (by decide +kernel) (Nat.le_of_ble_eq_true rfl) ?_
  intro Γ hΓ hR hD hEn
  subst hD; subst hEn
  exact L_X12_qWordHere_E hΓ hd   σ _ h hR
set_option maxRecDepth 100000 in
set_option maxHeartbeats 4000000 in
theorem L_X12_qWordOf_E {Γ : fhX} (hΓ : fhOk fhYM 12 cX12_qWordOf 4 (some .int) Γ) (hd : 3 ≤ fhD Γ) (v1 : Int32) (v2 : Int32)  (σ : fhM) (o : Int32 × fhM) (h : f_X12_qWordOf v1 v2 σ = some o) (hk : (fun o => fhRet Γ (some (.int o.1)) o.2) o) : fhW fhYM Γ 0 [(0, .ref 0), (1, .int v1), (2, .int v2)] [] σ := by
  unfold f_X12_qWordOf at h
  refine fhW.blk fhPM fhLL hΓ [(.aload_n 0, 0)] (pc' := 1) (lv' := [(0, .ref 0), (1, .int v1), (2, .int v2)]) (st' := [.ref 0]) (σ' := σ) (by decide +kernel) rfl rfl rfl ?_
  obtain ⟨q1, hb1, h⟩ := Option.bind_eq_some_iff.mp h
  refine fhW.callv hΓ mvX12_qWordHere ml_12_596 (t := 0) (ci := 12) (av := []) (rest := []) (r := (some (.int q1.1))) (σ' := q1.2) (T_X12_qWordHere (E := fhEn Γ) (d := fhD Γ - 1) (by omega) σ hb1) (by omega) (by decide +kernel) rfl rfl rfl (Nat.le_of_ble_eq_true rfl) rfl ?_
  show fhW fhYM Γ 4 [(0, .ref 0), (1, .int v1), (2, .int v2)] [.int q1.1] q1.2
  refine fhW.blk fhPM fhLL hΓ [(.istore_n 3, 0), (.iload_n 3, 0), (.iload_n 1, 0)] (pc' := 7) (lv' := [(3, .int q1.1), (0, .ref 0), (1, .int v1), (2, .int v2)]) (st' := [.int v1, .int q1.1]) (σ' := q1.2) (by decide +kernel) rfl rfl rfl ?_
  refine fhW.i_lt hΓ (tgt := 27) (show fhbk _ _ (.if_icmp .lt (20)) _ = true by decide +kernel) (fun hc => ?_) (fun hc => ?_)
  · rw [if_pos hc] at h
    refine fhW.blk fhPM fhLL hΓ [(.iconst (-1), -1)] (pc' := 28) (lv' := [(3, .int q1.1), (0, .ref 0), (1, .int v1), (2, .int v2)]) (st' := [.int (-1 : Int32)]) (σ' := q1.2) (by decide +kernel) rfl rfl rfl ?_
    have e9 := Option.some.inj h
    subst e9
    exact fhW.iret hΓ (by decide +kernel) hk
  · rw [if_neg hc] at h
    refine fhW.blk fhPM fhLL hΓ [(.iload_n 3, 0), (.iload_n 2, 0)] (pc' := 12) (lv' := [(3, .int q1.1), (0, .ref 0), (1, .int v1), (2, .int v2)]) (st' := [.int v2, .int q1.1]) (σ' := q1.2) (by decide +kernel) rfl rfl rfl ?_
    refine fhW.i_ge hΓ (tgt := 27) (show fhbk _ _ (.if_icmp .ge (15)) _ = true by decide +kernel) (fun hc => ?_) (fun hc => ?_)
    · rw [if_pos hc] at h
      refine fhW.blk fhPM fhLL hΓ [(.iconst (-1), -1)] (pc' := 28) (lv' := [(3, .int q1.1), (0, .ref 0), (1, .int v1), (2, .int v2)]) (st' := [.int (-1 : Int32)]) (σ' := q1.2) (by decide +kernel) rfl rfl rfl ?_
      have e9 := Option.some.inj h
      subst e9
      exact fhW.iret hΓ (by decide +kernel) hk
    · rw [if_neg hc] at h
      refine fhW.blk fhPM fhLL hΓ [(.aload_n 0, 0), (.iload_n 3, 0)] (pc' := 17) (lv' := [(3, .int q1.1), (0, .ref 0), (1, .int v1), (2, .int v2)]) (st' := [.int q1.1, .ref 0]) (σ' := q1.2) (by decide +kernel) rfl rfl rfl ?_
      refine fhW.callv hΓ mvX12_isAllowed ml_12_599 (t := 0) (ci := 12) (av := [.int q1.1]) (rest := []) (r := (some (.int (fhb (f_X12_isAllowed q1.1 q1.2))))) (σ' := q1.2) (T_X12_isAllowed (E := fhEn Γ) (d := fhD Γ - 1) (by omega) q1.1 q1.2) (by omega) (by decide +kernel) rfl rfl rfl (Nat.le_of_ble_eq_true rfl) rfl ?_
      show fhW fhYM Γ 20 [(3, .int q1.1), (0, .ref 0), (1, .int v1), (2, .int v2)] [.int (fhb (f_X12_isAllowed q1.1 q1.2))] q1.2
      refine fhW.b_eq hΓ (tgt := 27) (show fhbk _ _ (.ifCond .eq (7)) _ = true by decide +kernel) (fun hc => ?_) (fun hc => ?_)
      · rw [if_neg hc] at h
        refine fhW.blk fhPM fhLL hΓ [(.iconst (-1), -1)] (pc' := 28) (lv' := [(3, .int q1.1), (0, .ref 0), (1, .int v1), (2, .int v2)]) (st' := [.int (-1 : Int32)]) (σ' := q1.2) (by decide +kernel) rfl rfl rfl ?_
        have e9 := Option.some.inj h
        subst e9
        exact fhW.iret hΓ (by decide +kernel) hk
      · rw [if_pos hc] at h
        refine fhW.blk fhPM fhLL hΓ [(.iload_n 3, 0)] (pc' := 24) (lv' := [(3, .int q1.1), (0, .ref 0), (1, .int v1), (2, .int v2)]) (st' := [.int q1.1]) (σ' := q1.2) (by decide +kernel) rfl rfl rfl ?_
        refine fhW.goto hΓ (off := 4) (tgt := 28) (by decide +kernel) ?_
        have e9 := Option.some.inj h
        subst e9
        exact fhW.iret hΓ (by decide +kernel) hk
set_option maxRecDepth 100000 in
theorem T_X12_qWordOf {E : fhE} {d : Nat} (hd : 3 ≤ d) (v1 : Int32) (v2 : Int32)  (σ : fhM) {o : Int32 × fhM} (h : f_X12_qWordOf v1 v2 σ = some o) : fhC fhYM E d miX12_qWordOf [.ref 0, .int v1, .int v2] σ (some (.int o.1)) o.2 := by
  refine fhC.of (y := yX12_qWordOf) (cc := cX12_qWordOf) (nL := 4) (ret := (some .int)) 12 rfl (by decide +kernel) (Nat.le_of_ble_eq_true rfl) ?_
  intro Γ hΓ hR hD hEn
  subst hD; subst hEn
  exact L_X12_qWordOf_E hΓ hd v1 v2  σ _ h hR
set_option maxRecDepth 100000 in
set_option maxHeartbeats 4000000 in
theorem L_X12_qAsksWord_E {Γ : fhX} (hΓ : fhOk fhYM 12 cX12_qAsksWord 2 none Γ) (hd : 4 ≤ fhD Γ) (v1 : Int32)  (σ : fhM) (o : fhM) (h : f_X12_qAsksWord v1 σ = some o) (hk : (fun o => fhRet Γ none o) o) : fhW fhYM Γ 0 [(0, .ref 0), (1, .int v1)] [] σ := by
  unfold f_X12_qAsksWord at h
  refine fhW.blk fhPM fhLL hΓ [(.iload_n 1, 0)] (pc' := 1) (lv' := [(0, .ref 0), (1, .int v1)]) (st' := [.int v1]) (σ' := σ) (by decide +kernel) rfl rfl rfl ?_
  refine fhW.tsw hΓ (dflt := 180) (lo := 0) (hi := 10) (offs := #[59, 70, 81, 92, 103, 114, 125, 136, 147, 158, 169]) (len := 59) (td := 181) [(0, 60), (1, 71), (2, 82), (3, 93), (4, 104), (5, 115), (6, 126), (7, 137), (8, 148), (9, 159), (10, 170)] (by decide +kernel) ?_
  refine fhsw_c (fun hc => ?_) (fun hc => ?_)
  · rw [if_pos hc] at h
    refine fhW.blk fhPM fhLL hΓ [(.aload_n 0, 0), (.aload_n 0, 0), (.getfield 211, 0)] (pc' := 65) (lv' := [(0, .ref 0), (1, .int v1)]) (st' := [.ref 64, .ref 0]) (σ' := σ) (by decide +kernel) rfl rfl rfl ?_
    obtain ⟨q1, hb1, h⟩ := Option.bind_eq_some_iff.mp h
    refine fhW.callv hΓ mvX12_asks ml_12_327 (t := 0) (ci := 12) (av := [.ref 64]) (rest := []) (r := none) (σ' := q1) (T_X12_asks (E := fhEn Γ) (d := fhD Γ - 1) (by omega) 64 rfl σ hb1) (by omega) (by decide +kernel) rfl rfl rfl (Nat.le_of_ble_eq_true rfl) rfl ?_
    show fhW fhYM Γ 68 [(0, .ref 0), (1, .int v1)] [] q1
    refine fhW.goto hΓ (off := 121) (tgt := 189) (by decide +kernel) ?_
    have e9 := Option.some.inj h
    subst e9
    exact fhW.vret hΓ (by decide +kernel) hk
  rw [if_neg hc] at h
  refine fhsw_c (fun hc => ?_) (fun hc => ?_)
  · rw [if_pos hc] at h
    refine fhW.blk fhPM fhLL hΓ [(.aload_n 0, 0), (.aload_n 0, 0), (.getfield 214, 0)] (pc' := 76) (lv' := [(0, .ref 0), (1, .int v1)]) (st' := [.ref 65, .ref 0]) (σ' := σ) (by decide +kernel) rfl rfl rfl ?_
    obtain ⟨q2, hb2, h⟩ := Option.bind_eq_some_iff.mp h
    refine fhW.callv hΓ mvX12_asks ml_12_327 (t := 0) (ci := 12) (av := [.ref 65]) (rest := []) (r := none) (σ' := q2) (T_X12_asks (E := fhEn Γ) (d := fhD Γ - 1) (by omega) 65 rfl σ hb2) (by omega) (by decide +kernel) rfl rfl rfl (Nat.le_of_ble_eq_true rfl) rfl ?_
    show fhW fhYM Γ 79 [(0, .ref 0), (1, .int v1)] [] q2
    refine fhW.goto hΓ (off := 110) (tgt := 189) (by decide +kernel) ?_
    have e9 := Option.some.inj h
    subst e9
    exact fhW.vret hΓ (by decide +kernel) hk
  rw [if_neg hc] at h
  refine fhsw_c (fun hc => ?_) (fun hc => ?_)
  · rw [if_pos hc] at h
    refine fhW.blk fhPM fhLL hΓ [(.aload_n 0, 0), (.aload_n 0, 0), (.getfield 217, 0)] (pc' := 87) (lv' := [(0, .ref 0), (1, .int v1)]) (st' := [.ref 66, .ref 0]) (σ' := σ) (by decide +kernel) rfl rfl rfl ?_
    obtain ⟨q3, hb3, h⟩ := Option.bind_eq_some_iff.mp h
    refine fhW.callv hΓ mvX12_asks ml_12_327 (t := 0) (ci := 12) (av := [.ref 66]) (rest := []) (r := none) (σ' := q3) (T_X12_asks (E := fhEn Γ) (d := fhD Γ - 1) (by omega) 66 rfl σ hb3) (by omega) (by decide +kernel) rfl rfl rfl (Nat.le_of_ble_eq_true rfl) rfl ?_
    show fhW fhYM Γ 90 [(0, .ref 0), (1, .int v1)] [] q3
    refine fhW.goto hΓ (off := 99) (tgt := 189) (by decide +kernel) ?_
    have e9 := Option.some.inj h
    subst e9
    exact fhW.vret hΓ (by decide +kernel) hk
  rw [if_neg hc] at h
  refine fhsw_c (fun hc => ?_) (fun hc => ?_)
  · rw [if_pos hc] at h
    refine fhW.blk fhPM fhLL hΓ [(.aload_n 0, 0), (.aload_n 0, 0), (.getfield 220, 0)] (pc' := 98) (lv' := [(0, .ref 0), (1, .int v1)]) (st' := [.ref 67, .ref 0]) (σ' := σ) (by decide +kernel) rfl rfl rfl ?_
    obtain ⟨q4, hb4, h⟩ := Option.bind_eq_some_iff.mp h
    refine fhW.callv hΓ mvX12_asks ml_12_327 (t := 0) (ci := 12) (av := [.ref 67]) (rest := []) (r := none) (σ' := q4) (T_X12_asks (E := fhEn Γ) (d := fhD Γ - 1) (by omega) 67 rfl σ hb4) (by omega) (by decide +kernel) rfl rfl rfl (Nat.le_of_ble_eq_true rfl) rfl ?_
    show fhW fhYM Γ 101 [(0, .ref 0), (1, .int v1)] [] q4
    refine fhW.goto hΓ (off := 88) (tgt := 189) (by decide +kernel) ?_
    have e9 := Option.some.inj h
    subst e9
    exact fhW.vret hΓ (by decide +kernel) hk
  rw [if_neg hc] at h
  refine fhsw_c (fun hc => ?_) (fun hc => ?_)
  · rw [if_pos hc] at h
    refine fhW.blk fhPM fhLL hΓ [(.aload_n 0, 0), (.aload_n 0, 0), (.getfield 223, 0)] (pc' := 109) (lv' := [(0, .ref 0), (1, .int v1)]) (st' := [.ref 68, .ref 0]) (σ' := σ) (by decide +kernel) rfl rfl rfl ?_
    obtain ⟨q5, hb5, h⟩ := Option.bind_eq_some_iff.mp h
    refine fhW.callv hΓ mvX12_asks ml_12_327 (t := 0) (ci := 12) (av := [.ref 68]) (rest := []) (r := none) (σ' := q5) (T_X12_asks (E := fhEn Γ) (d := fhD Γ - 1) (by omega) 68 rfl σ hb5) (by omega) (by decide +kernel) rfl rfl rfl (Nat.le_of_ble_eq_true rfl) rfl ?_
    show fhW fhYM Γ 112 [(0, .ref 0), (1, .int v1)] [] q5
    refine fhW.goto hΓ (off := 77) (tgt := 189) (by decide +kernel) ?_
    have e9 := Option.some.inj h
    subst e9
    exact fhW.vret hΓ (by decide +kernel) hk
  rw [if_neg hc] at h
  refine fhsw_c (fun hc => ?_) (fun hc => ?_)
  · rw [if_pos hc] at h
    refine fhW.blk fhPM fhLL hΓ [(.aload_n 0, 0), (.aload_n 0, 0), (.getfield 226, 0)] (pc' := 120) (lv' := [(0, .ref 0), (1, .int v1)]) (st' := [.ref 69, .ref 0]) (σ' := σ) (by decide +kernel) rfl rfl rfl ?_
    obtain ⟨q6, hb6, h⟩ := Option.bind_eq_some_iff.mp h
    refine fhW.callv hΓ mvX12_asks ml_12_327 (t := 0) (ci := 12) (av := [.ref 69]) (rest := []) (r := none) (σ' := q6) (T_X12_asks (E := fhEn Γ) (d := fhD Γ - 1) (by omega) 69 rfl σ hb6) (by omega) (by decide +kernel) rfl rfl rfl (Nat.le_of_ble_eq_true rfl) rfl ?_
    show fhW fhYM Γ 123 [(0, .ref 0), (1, .int v1)] [] q6
    refine fhW.goto hΓ (off := 66) (tgt := 189) (by decide +kernel) ?_
    have e9 := Option.some.inj h
    subst e9
    exact fhW.vret hΓ (by decide +kernel) hk
  rw [if_neg hc] at h
  refine fhsw_c (fun hc => ?_) (fun hc => ?_)
  · rw [if_pos hc] at h
    refine fhW.blk fhPM fhLL hΓ [(.aload_n 0, 0), (.aload_n 0, 0), (.getfield 229, 0)] (pc' := 131) (lv' := [(0, .ref 0), (1, .int v1)]) (st' := [.ref 70, .ref 0]) (σ' := σ) (by decide +kernel) rfl rfl rfl ?_
    obtain ⟨q7, hb7, h⟩ := Option.bind_eq_some_iff.mp h
    refine fhW.callv hΓ mvX12_asks ml_12_327 (t := 0) (ci := 12) (av := [.ref 70]) (rest := []) (r := none) (σ' := q7) (T_X12_asks (E := fhEn Γ) (d := fhD Γ - 1) (by omega) 70 rfl σ hb7) (by omega) (by decide +kernel) rfl rfl rfl (Nat.le_of_ble_eq_true rfl) rfl ?_
    show fhW fhYM Γ 134 [(0, .ref 0), (1, .int v1)] [] q7
    refine fhW.goto hΓ (off := 55) (tgt := 189) (by decide +kernel) ?_
    have e9 := Option.some.inj h
    subst e9
    exact fhW.vret hΓ (by decide +kernel) hk
  rw [if_neg hc] at h
  refine fhsw_c (fun hc => ?_) (fun hc => ?_)
  · rw [if_pos hc] at h
    refine fhW.blk fhPM fhLL hΓ [(.aload_n 0, 0), (.aload_n 0, 0), (.getfield 232, 0)] (pc' := 142) (lv' := [(0, .ref 0), (1, .int v1)]) (st' := [.ref 71, .ref 0]) (σ' := σ) (by decide +kernel) rfl rfl rfl ?_
    obtain ⟨q8, hb8, h⟩ := Option.bind_eq_some_iff.mp h
    refine fhW.callv hΓ mvX12_asks ml_12_327 (t := 0) (ci := 12) (av := [.ref 71]) (rest := []) (r := none) (σ' := q8) (T_X12_asks (E := fhEn Γ) (d := fhD Γ - 1) (by omega) 71 rfl σ hb8) (by omega) (by decide +kernel) rfl rfl rfl (Nat.le_of_ble_eq_true rfl) rfl ?_
    show fhW fhYM Γ 145 [(0, .ref 0), (1, .int v1)] [] q8
    refine fhW.goto hΓ (off := 44) (tgt := 189) (by decide +kernel) ?_
    have e9 := Option.some.inj h
    subst e9
    exact fhW.vret hΓ (by decide +kernel) hk
  rw [if_neg hc] at h
  refine fhsw_c (fun hc => ?_) (fun hc => ?_)
  · rw [if_pos hc] at h
    refine fhW.blk fhPM fhLL hΓ [(.aload_n 0, 0), (.aload_n 0, 0), (.getfield 235, 0)] (pc' := 153) (lv' := [(0, .ref 0), (1, .int v1)]) (st' := [.ref 72, .ref 0]) (σ' := σ) (by decide +kernel) rfl rfl rfl ?_
    obtain ⟨q9, hb9, h⟩ := Option.bind_eq_some_iff.mp h
    refine fhW.callv hΓ mvX12_asks ml_12_327 (t := 0) (ci := 12) (av := [.ref 72]) (rest := []) (r := none) (σ' := q9) (T_X12_asks (E := fhEn Γ) (d := fhD Γ - 1) (by omega) 72 rfl σ hb9) (by omega) (by decide +kernel) rfl rfl rfl (Nat.le_of_ble_eq_true rfl) rfl ?_
    show fhW fhYM Γ 156 [(0, .ref 0), (1, .int v1)] [] q9
    refine fhW.goto hΓ (off := 33) (tgt := 189) (by decide +kernel) ?_
    have e9 := Option.some.inj h
    subst e9
    exact fhW.vret hΓ (by decide +kernel) hk
  rw [if_neg hc] at h
  refine fhsw_c (fun hc => ?_) (fun hc => ?_)
  · rw [if_pos hc] at h
    refine fhW.blk fhPM fhLL hΓ [(.aload_n 0, 0), (.aload_n 0, 0), (.getfield 238, 0)] (pc' := 164) (lv' := [(0, .ref 0), (1, .int v1)]) (st' := [.ref 73, .ref 0]) (σ' := σ) (by decide +kernel) rfl rfl rfl ?_
    obtain ⟨q10, hb10, h⟩ := Option.bind_eq_some_iff.mp h
    refine fhW.callv hΓ mvX12_asks ml_12_327 (t := 0) (ci := 12) (av := [.ref 73]) (rest := []) (r := none) (σ' := q10) (T_X12_asks (E := fhEn Γ) (d := fhD Γ - 1) (by omega) 73 rfl σ hb10) (by omega) (by decide +kernel) rfl rfl rfl (Nat.le_of_ble_eq_true rfl) rfl ?_
    show fhW fhYM Γ 167 [(0, .ref 0), (1, .int v1)] [] q10
    refine fhW.goto hΓ (off := 22) (tgt := 189) (by decide +kernel) ?_
    have e9 := Option.some.inj h
    subst e9
    exact fhW.vret hΓ (by decide +kernel) hk
  rw [if_neg hc] at h
  refine fhsw_c (fun hc => ?_) (fun hc => ?_)
  · rw [if_pos hc] at h
    refine fhW.blk fhPM fhLL hΓ [(.aload_n 0, 0), (.aload_n 0, 0), (.getfield 241, 0)] (pc' := 175) (lv' := [(0, .ref 0), (1, .int v1)]) (st' := [.ref 74, .ref 0]) (σ' := σ) (by decide +kernel) rfl rfl rfl ?_
    obtain ⟨q11, hb11, h⟩ := Option.bind_eq_some_iff.mp h
    refine fhW.callv hΓ mvX12_asks ml_12_327 (t := 0) (ci := 12) (av := [.ref 74]) (rest := []) (r := none) (σ' := q11) (T_X12_asks (E := fhEn Γ) (d := fhD Γ - 1) (by omega) 74 rfl σ hb11) (by omega) (by decide +kernel) rfl rfl rfl (Nat.le_of_ble_eq_true rfl) rfl ?_
    show fhW fhYM Γ 178 [(0, .ref 0), (1, .int v1)] [] q11
    refine fhW.goto hΓ (off := 11) (tgt := 189) (by decide +kernel) ?_
    have e9 := Option.some.inj h
    subst e9
    exact fhW.vret hΓ (by decide +kernel) hk
  rw [if_neg hc] at h
  refine fhsw_n ?_
  refine fhW.blk fhPM fhLL hΓ [(.aload_n 0, 0), (.aload_n 0, 0), (.getfield 244, 0)] (pc' := 186) (lv' := [(0, .ref 0), (1, .int v1)]) (st' := [.ref 75, .ref 0]) (σ' := σ) (by decide +kernel) rfl rfl rfl ?_
  obtain ⟨q12, hb12, h⟩ := Option.bind_eq_some_iff.mp h
  refine fhW.callv hΓ mvX12_asks ml_12_327 (t := 0) (ci := 12) (av := [.ref 75]) (rest := []) (r := none) (σ' := q12) (T_X12_asks (E := fhEn Γ) (d := fhD Γ - 1) (by omega) 75 rfl σ hb12) (by omega) (by decide +kernel) rfl rfl rfl (Nat.le_of_ble_eq_true rfl) rfl ?_
  show fhW fhYM Γ 189 [(0, .ref 0), (1, .int v1)] [] q12
  have e9 := Option.some.inj h
  subst e9
  exact fhW.vret hΓ (by decide +kernel) hk
set_option maxRecDepth 100000 in
theorem T_X12_qAsksWord {E : fhE} {d : Nat} (hd : 4 ≤ d) (v1 : Int32)  (σ : fhM) {o : fhM} (h : f_X12_qAsksWord v1 σ = some o) : fhC fhYM E d miX12_qAsksWord [.ref 0, .int v1] σ none o := by
  refine fhC.of (y := yX12_qAsksWord) (cc := cX12_qAsksWord) (nL := 2) (ret := none) 12 rfl (by decide +kernel) (Nat.le_of_ble_eq_true rfl) ?_
  intro Γ hΓ hR hD hEn
  subst hD; subst hEn
  exact L_X12_qAsksWord_E hΓ hd v1  σ _ h hR
set_option maxRecDepth 100000 in
set_option maxHeartbeats 4000000 in
theorem L_X12_qDrops_E {Γ : fhX} (hΓ : fhOk fhYM 12 cX12_qDrops 1 none Γ) (hd : 1 ≤ fhD Γ)   (σ : fhM) (o : fhM) (h : f_X12_qDrops σ = some o) (hk : (fun o => fhRet Γ none o) o) : fhW fhYM Γ 0 [(0, .ref 0)] [] σ := by
  unfold f_X12_qDrops at h
  obtain ⟨hg1, h⟩ := fhif h
  refine fhW.blk fhPM fhLL hΓ [(.aload_n 0, 0), (.dup, 0), (.getfield 353, 0), (.iconst 1, 1), (.isub, 0), (.putfield 353, 0), (.aload_n 0, 0), (.aload_n 0, 0), (.getfield 250, 0), (.aload_n 0, 0), (.getfield 353, 0), (.iaload, 0)] (pc' := 20) (lv' := [(0, .ref 0)]) (st' := [.int (σ.1 77 (fhix ((σ.1 0 101) - (1 : Int32)))), .ref 0]) (σ' := (fhI σ 0 101 ((σ.1 0 101) - (1 : Int32)))) (by decide +kernel) rfl rfl hg1 ?_
  obtain ⟨q1, hb1, h⟩ := Option.bind_eq_some_iff.mp h
  refine fhW.callv hΓ mvX12_qCode ml_12_587 (t := 0) (ci := 12) (av := [.int (σ.1 77 (fhix ((σ.1 0 101) - (1 : Int32))))]) (rest := []) (r := none) (σ' := q1) (T_X12_qCode (E := fhEn Γ) (d := fhD Γ - 1) (by omega) (σ.1 77 (fhix ((σ.1 0 101) - (1 : Int32)))) (fhI σ 0 101 ((σ.1 0 101) - (1 : Int32))) hb1) (by omega) (by decide +kernel) rfl rfl rfl (Nat.le_of_ble_eq_true rfl) rfl ?_
  show fhW fhYM Γ 23 [(0, .ref 0)] [] q1
  have e9 := Option.some.inj h
  subst e9
  exact fhW.vret hΓ (by decide +kernel) hk
set_option maxRecDepth 100000 in
theorem T_X12_qDrops {E : fhE} {d : Nat} (hd : 1 ≤ d)   (σ : fhM) {o : fhM} (h : f_X12_qDrops σ = some o) : fhC fhYM E d miX12_qDrops [.ref 0] σ none o := by
  refine fhC.of (y := yX12_qDrops) (cc := cX12_qDrops) (nL := 1) (ret := none) 12 rfl (by decide +kernel) (Nat.le_of_ble_eq_true rfl) ?_
  intro Γ hΓ hR hD hEn
  subst hD; subst hEn
  exact L_X12_qDrops_E hΓ hd   σ _ h hR
set_option maxRecDepth 100000 in
set_option maxHeartbeats 4000000 in
theorem L_X12_qEndsPart_0 {Γ : fhX} (hΓ : fhOk fhYM 12 cX12_qEndsPart 1 none Γ) (hd : 2 ≤ fhD Γ)   (σ : fhM) (o : (fhM) ⊕ (fhM)) (h : f_X12_qEndsPart_0 σ = some o) (hk : (fhK (fun x => fhW fhYM Γ 0 [(0, .ref 0)] [] x) (fun o => fhRet Γ none o)) o) : fhW fhYM Γ 0 [(0, .ref 0)] [] σ := by
  unfold f_X12_qEndsPart_0 at h
  refine fhW.blk fhPM fhLL hΓ [(.aload_n 0, 0), (.getfield 262, 0)] (pc' := 4) (lv' := [(0, .ref 0)]) (st' := [.int (σ.1 0 5)]) (σ' := σ) (by decide +kernel) rfl rfl rfl ?_
  refine fhW.z_ne hΓ (tgt := 51) (show fhbk _ _ (.ifCond .ne (47)) _ = true by decide +kernel) (fun hc => ?_) (fun hc => ?_)
  · rw [if_neg hc] at h
    have e9 := Option.some.inj h
    subst e9
    exact fhW.vret hΓ (by decide +kernel) hk
  · rw [if_pos hc] at h
    refine fhW.blk fhPM fhLL hΓ [(.aload_n 0, 0), (.getfield 353, 0), (.aload_n 0, 0), (.getfield 359, 0)] (pc' := 15) (lv' := [(0, .ref 0)]) (st' := [.int (σ.1 0 103), .int (σ.1 0 101)]) (σ' := σ) (by decide +kernel) rfl rfl rfl ?_
    refine fhW.i_le hΓ (tgt := 51) (show fhbk _ _ (.if_icmp .le (36)) _ = true by decide +kernel) (fun hc => ?_) (fun hc => ?_)
    · rw [if_pos hc] at h
      have e9 := Option.some.inj h
      subst e9
      exact fhW.vret hΓ (by decide +kernel) hk
    · rw [if_neg hc] at h
      obtain ⟨hg1, h⟩ := fhif h
      refine fhW.blk fhPM fhLL hΓ [(.aload_n 0, 0), (.getfield 250, 0), (.aload_n 0, 0), (.getfield 353, 0), (.iconst 1, 1), (.isub, 0), (.iaload, 0), (.bipush 60, 60)] (pc' := 31) (lv' := [(0, .ref 0)]) (st' := [.int (60 : Int32), .int (σ.1 77 (fhix ((σ.1 0 101) - (1 : Int32))))]) (σ' := σ) (by decide +kernel) rfl rfl hg1 ?_
      refine fhW.i_lt hΓ (tgt := 51) (show fhbk _ _ (.if_icmp .lt (20)) _ = true by decide +kernel) (fun hc => ?_) (fun hc => ?_)
      · rw [if_pos hc] at h
        have e9 := Option.some.inj h
        subst e9
        exact fhW.vret hΓ (by decide +kernel) hk
      · rw [if_neg hc] at h
        refine fhW.blk fhPM fhLL hΓ [(.aload_n 0, 0), (.dup, 0), (.getfield 356, 0), (.iconst 1, 1), (.isub, 0), (.putfield 356, 0), (.aload_n 0, 0)] (pc' := 45) (lv' := [(0, .ref 0)]) (st' := [.ref 0]) (σ' := (fhI σ 0 102 ((σ.1 0 102) - (1 : Int32)))) (by decide +kernel) rfl rfl rfl ?_
        obtain ⟨q1, hb1, h⟩ := Option.bind_eq_some_iff.mp h
        refine fhW.callv hΓ mvX12_qDrops ml_12_593 (t := 0) (ci := 12) (av := []) (rest := []) (r := none) (σ' := q1) (T_X12_qDrops (E := fhEn Γ) (d := fhD Γ - 1) (by omega) (fhI σ 0 102 ((σ.1 0 102) - (1 : Int32))) hb1) (by omega) (by decide +kernel) rfl rfl rfl (Nat.le_of_ble_eq_true rfl) rfl ?_
        show fhW fhYM Γ 48 [(0, .ref 0)] [] q1
        refine fhW.goto hΓ (off := (-48)) (tgt := 0) (by decide +kernel) ?_
        refine fhW.sub (lv' := [(0, .ref 0)]) [0] rfl ?_
        have e9 := Option.some.inj h
        subst e9
        exact hk
set_option maxRecDepth 100000 in
set_option maxHeartbeats 4000000 in
theorem L_X12_qEndsPart_E {Γ : fhX} (hΓ : fhOk fhYM 12 cX12_qEndsPart 1 none Γ) (hd : 2 ≤ fhD Γ)   (σ : fhM) (o : fhM) (h : f_X12_qEndsPart σ = some o) (hk : (fun o => fhRet Γ none o) o) : fhW fhYM Γ 0 [(0, .ref 0)] [] σ := by
  unfold f_X12_qEndsPart at h
  refine fhW.sub (lv' := [(0, .ref 0)]) [0] rfl ?_
  exact fhlp_ok (W := (fun x => fhW fhYM Γ 0 [(0, .ref 0)] [] x)) (B := (fun o => fhRet Γ none o)) (fun x o h hk => L_X12_qEndsPart_0 hΓ hd x o h hk) σ _ h hk
set_option maxRecDepth 100000 in
theorem T_X12_qEndsPart {E : fhE} {d : Nat} (hd : 2 ≤ d)   (σ : fhM) {o : fhM} (h : f_X12_qEndsPart σ = some o) : fhC fhYM E d miX12_qEndsPart [.ref 0] σ none o := by
  refine fhC.of (y := yX12_qEndsPart) (cc := cX12_qEndsPart) (nL := 1) (ret := none) 12 rfl (by decide +kernel) (Nat.le_of_ble_eq_true rfl) ?_
  intro Γ hΓ hR hD hEn
  subst hD; subst hEn
  exact L_X12_qEndsPart_E hΓ hd   σ _ h hR
