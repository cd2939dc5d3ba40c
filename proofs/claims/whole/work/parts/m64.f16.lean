set_option maxRecDepth 100000 in
set_option maxHeartbeats 4000000 in
theorem L_X4_fewestFacts_105 {Γ : fhX} (hE : fhEok fhYF (fhEn Γ)) (hΓ : fhOk fhYF 4 cX4_fewestFacts 6 (some .int) Γ) (hd : 4 ≤ fhD Γ) (v2 : Int32) (v3 : Int32) (v4 : Int32)  (σ : fhM) (o : (Int32 × Int32) ⊕ (Int32 × fhM)) (h : f_X4_fewestFacts_105 v2 v3 v4 σ = some o) (hk : (fhK (fun x => fhW fhYF Γ 28 [(0, .ref 56), (2, .int v2), (3, .int x.1), (4, .int x.2)] [] σ) (fun o => fhRet Γ (some (.int o.1)) o.2)) o) : fhW fhYF Γ 105 [(0, .ref 56), (2, .int v2), (3, .int v3), (4, .int v4)] [] σ := by
  unfold f_X4_fewestFacts_105 at h
  refine fhW.blk fhPF fhLL hΓ [(.iinc 4 1, 1)] (pc' := 108) (lv' := [(4, .int (v4 + (1 : Int32))), (0, .ref 56), (2, .int v2), (3, .int v3)]) (st' := []) (σ' := σ) (by decide +kernel) rfl rfl rfl ?_
  refine fhW.goto hΓ (off := (-80)) (tgt := 28) (by decide +kernel) ?_
  refine fhW.sub (lv' := [(0, .ref 56), (2, .int v2), (3, .int v3), (4, .int (v4 + (1 : Int32)))]) [1, 2, 3, 0] rfl ?_
  have e9 := Option.some.inj h
  subst e9
  exact hk
set_option maxRecDepth 100000 in
set_option maxHeartbeats 4000000 in
theorem L_X4_fewestFacts_102 {Γ : fhX} (hE : fhEok fhYF (fhEn Γ)) (hΓ : fhOk fhYF 4 cX4_fewestFacts 6 (some .int) Γ) (hd : 4 ≤ fhD Γ) (v2 : Int32) (v4 : Int32)  (σ : fhM) (o : (Int32 × Int32) ⊕ (Int32 × fhM)) (h : f_X4_fewestFacts_102 v2 v4 σ = some o) (hk : (fhK (fun x => fhW fhYF Γ 28 [(0, .ref 56), (2, .int v2), (3, .int x.1), (4, .int x.2)] [] σ) (fun o => fhRet Γ (some (.int o.1)) o.2)) o) : fhW fhYF Γ 102 [(0, .ref 56), (2, .int v2), (4, .int v4)] [] σ := by
  unfold f_X4_fewestFacts_102 at h
  refine fhW.blk fhPF fhLL hΓ [(.iload 4, 0), (.istore_n 3, 0)] (pc' := 105) (lv' := [(3, .int v4), (0, .ref 56), (2, .int v2), (4, .int v4)]) (st' := []) (σ' := σ) (by decide +kernel) rfl rfl rfl ?_
  refine fhW.sub (lv' := [(0, .ref 56), (2, .int v2), (3, .int v4), (4, .int v4)]) [1, 2, 0, 3] rfl ?_
  exact L_X4_fewestFacts_105 hE hΓ hd v2 v4 v4 σ _ h hk
set_option maxRecDepth 100000 in
set_option maxHeartbeats 4000000 in
theorem L_X4_fewestFacts_64 {Γ : fhX} (hE : fhEok fhYF (fhEn Γ)) (hΓ : fhOk fhYF 4 cX4_fewestFacts 6 (some .int) Γ) (hd : 4 ≤ fhD Γ) (v2 : Int32) (v3 : Int32) (v4 : Int32) (s0 : Int32)  (σ : fhM) (o : (Int32 × Int32) ⊕ (Int32 × fhM)) (h : f_X4_fewestFacts_64 v2 v3 v4 s0 σ = some o) (hk : (fhK (fun x => fhW fhYF Γ 28 [(0, .ref 56), (2, .int v2), (3, .int x.1), (4, .int x.2)] [] σ) (fun o => fhRet Γ (some (.int o.1)) o.2)) o) : fhW fhYF Γ 64 [(0, .ref 56), (2, .int v2), (3, .int v3), (4, .int v4)] [.int s0] σ := by
  unfold f_X4_fewestFacts_64 at h
  refine fhW.blk fhPF fhLL hΓ [(.istore 5, 0), (.iload 5, 0)] (pc' := 68) (lv' := [(5, .int s0), (0, .ref 56), (2, .int v2), (3, .int v3), (4, .int v4)]) (st' := [.int s0]) (σ' := σ) (by decide +kernel) rfl rfl rfl ?_
  refine fhW.z_eq hΓ (tgt := 105) (show fhbk _ _ (.ifCond .eq (37)) _ = true by decide +kernel) (fun hc => ?_) (fun hc => ?_)
  · rw [if_pos hc] at h
    refine fhW.sub (lv' := [(0, .ref 56), (2, .int v2), (3, .int v3), (4, .int v4)]) [1, 2, 3, 4] rfl ?_
    exact L_X4_fewestFacts_105 hE hΓ hd v2 v3 v4 σ _ h hk
  · rw [if_neg hc] at h
    refine fhW.blk fhPF fhLL hΓ [(.aload_n 0, 0), (.aload_n 0, 0), (.getfield 30, 0), (.iload 4, 0)] (pc' := 78) (lv' := [(5, .int s0), (0, .ref 56), (2, .int v2), (3, .int v3), (4, .int v4)]) (st' := [.int v4, .ref 68, .ref 56]) (σ' := σ) (by decide +kernel) rfl rfl rfl ?_
    obtain ⟨q3, hb1, h⟩ := Option.bind_eq_some_iff.mp h
    refine fhW.callv hΓ mvX4_isCleared ml_4_122 (t := 56) (ci := 4) (av := [.ref 68, .int v4]) (rest := []) (r := (some (.int (fhb q3)))) (σ' := σ) (T_X4_isCleared (E := fhEn Γ) (d := fhD Γ - 1) hE (by omega) 68 v4 rfl σ hb1) (by omega) (by decide +kernel) rfl rfl rfl (Nat.le_of_ble_eq_true rfl) rfl ?_
    show fhW fhYF Γ 81 [(5, .int s0), (0, .ref 56), (2, .int v2), (3, .int v3), (4, .int v4)] [.int (fhb q3)] σ
    refine fhW.b_eq hΓ (tgt := 105) (show fhbk _ _ (.ifCond .eq (24)) _ = true by decide +kernel) (fun hc => ?_) (fun hc => ?_)
    · rw [if_neg hc] at h
      refine fhW.sub (lv' := [(0, .ref 56), (2, .int v2), (3, .int v3), (4, .int v4)]) [1, 2, 3, 4] rfl ?_
      exact L_X4_fewestFacts_105 hE hΓ hd v2 v3 v4 σ _ h hk
    · rw [if_pos hc] at h
      refine fhW.blk fhPF fhLL hΓ [(.iload_n 2, 0), (.iconst (-1), -1)] (pc' := 86) (lv' := [(5, .int s0), (0, .ref 56), (2, .int v2), (3, .int v3), (4, .int v4)]) (st' := [.int (-1 : Int32), .int v2]) (σ' := σ) (by decide +kernel) rfl rfl rfl ?_
      refine fhW.i_eq hΓ (tgt := 102) (show fhbk _ _ (.if_icmp .eq (16)) _ = true by decide +kernel) (fun hc => ?_) (fun hc => ?_)
      · rw [if_pos hc] at h
        refine fhW.sub (lv' := [(0, .ref 56), (2, .int v2), (4, .int v4)]) [1, 2, 4] rfl ?_
        exact L_X4_fewestFacts_102 hE hΓ hd v2 v4 σ _ h hk
      · rw [if_neg hc] at h
        refine fhW.blk fhPF fhLL hΓ [(.aload_n 0, 0), (.aload_n 0, 0), (.getfield 33, 0), (.iload 4, 0)] (pc' := 96) (lv' := [(5, .int s0), (0, .ref 56), (2, .int v2), (3, .int v3), (4, .int v4)]) (st' := [.int v4, .ref 70, .ref 56]) (σ' := σ) (by decide +kernel) rfl rfl rfl ?_
        obtain ⟨q4, hb2, h⟩ := Option.bind_eq_some_iff.mp h
        refine fhW.callv hΓ mvX4_isCleared ml_4_122 (t := 56) (ci := 4) (av := [.ref 70, .int v4]) (rest := []) (r := (some (.int (fhb q4)))) (σ' := σ) (T_X4_isCleared (E := fhEn Γ) (d := fhD Γ - 1) hE (by omega) 70 v4 rfl σ hb2) (by omega) (by decide +kernel) rfl rfl rfl (Nat.le_of_ble_eq_true rfl) rfl ?_
        show fhW fhYF Γ 99 [(5, .int s0), (0, .ref 56), (2, .int v2), (3, .int v3), (4, .int v4)] [.int (fhb q4)] σ
        refine fhW.b_ne hΓ (tgt := 105) (show fhbk _ _ (.ifCond .ne (6)) _ = true by decide +kernel) (fun hc => ?_) (fun hc => ?_)
        · rw [if_pos hc] at h
          refine fhW.sub (lv' := [(0, .ref 56), (2, .int v2), (3, .int v3), (4, .int v4)]) [1, 2, 3, 4] rfl ?_
          exact L_X4_fewestFacts_105 hE hΓ hd v2 v3 v4 σ _ h hk
        · rw [if_neg hc] at h
          refine fhW.sub (lv' := [(0, .ref 56), (2, .int v2), (4, .int v4)]) [1, 2, 4] rfl ?_
          exact L_X4_fewestFacts_102 hE hΓ hd v2 v4 σ _ h hk
set_option maxRecDepth 100000 in
set_option maxHeartbeats 4000000 in
theorem L_X4_fewestFacts_59 {Γ : fhX} (hE : fhEok fhYF (fhEn Γ)) (hΓ : fhOk fhYF 4 cX4_fewestFacts 6 (some .int) Γ) (hd : 4 ≤ fhD Γ) (v2 : Int32) (v3 : Int32) (v4 : Int32)  (σ : fhM) (o : (Int32 × Int32) ⊕ (Int32 × fhM)) (h : f_X4_fewestFacts_59 v2 v3 v4 σ = some o) (hk : (fhK (fun x => fhW fhYF Γ 28 [(0, .ref 56), (2, .int v2), (3, .int x.1), (4, .int x.2)] [] σ) (fun o => fhRet Γ (some (.int o.1)) o.2)) o) : fhW fhYF Γ 59 [(0, .ref 56), (2, .int v2), (3, .int v3), (4, .int v4)] [] σ := by
  unfold f_X4_fewestFacts_59 at h
  refine fhW.blk fhPF fhLL hΓ [(.iconst 1, 1)] (pc' := 60) (lv' := [(0, .ref 56), (2, .int v2), (3, .int v3), (4, .int v4)]) (st' := [.int (1 : Int32)]) (σ' := σ) (by decide +kernel) rfl rfl rfl ?_
  refine fhW.goto hΓ (off := 4) (tgt := 64) (by decide +kernel) ?_
  refine fhW.sub (lv' := [(0, .ref 56), (2, .int v2), (3, .int v3), (4, .int v4)]) [0, 1, 2, 3] rfl ?_
  exact L_X4_fewestFacts_64 hE hΓ hd v2 v3 v4 (1 : Int32) σ _ h hk
set_option maxRecDepth 100000 in
set_option maxHeartbeats 4000000 in
theorem L_X4_fewestFacts_28 {Γ : fhX} (hE : fhEok fhYF (fhEn Γ)) (hΓ : fhOk fhYF 4 cX4_fewestFacts 6 (some .int) Γ) (hd : 4 ≤ fhD Γ) (v2 : Int32) (v3 : Int32) (v4 : Int32)  (σ : fhM) (o : (Int32 × Int32) ⊕ (Int32 × fhM)) (h : f_X4_fewestFacts_28 v2 v3 v4 σ = some o) (hk : (fhK (fun x => fhW fhYF Γ 28 [(0, .ref 56), (2, .int v2), (3, .int x.1), (4, .int x.2)] [] σ) (fun o => fhRet Γ (some (.int o.1)) o.2)) o) : fhW fhYF Γ 28 [(0, .ref 56), (2, .int v2), (3, .int v3), (4, .int v4)] [] σ := by
  unfold f_X4_fewestFacts_28 at h
  refine fhW.blk fhPF fhLL hΓ [(.iload 4, 0), (.iconst 1, 1), (.aload_n 0, 0), (.getfield 42, 0), (.getfield 114, 0), (.ishl, 0)] (pc' := 39) (lv' := [(0, .ref 56), (2, .int v2), (3, .int v3), (4, .int v4)]) (st' := [.int ((1 : Int32) <<< ((σ.1 39 10) &&& 31)), .int v4]) (σ' := σ) (by decide +kernel) rfl rfl rfl ?_
  refine fhW.i_ge hΓ (tgt := 111) (show fhbk _ _ (.if_icmp .ge (72)) _ = true by decide +kernel) (fun hc => ?_) (fun hc => ?_)
  · rw [if_pos hc] at h
    refine fhW.blk fhPF fhLL hΓ [(.iload_n 3, 0)] (pc' := 112) (lv' := [(0, .ref 56), (2, .int v2), (3, .int v3), (4, .int v4)]) (st' := [.int v3]) (σ' := σ) (by decide +kernel) rfl rfl rfl ?_
    have e9 := Option.some.inj h
    subst e9
    exact fhW.iret hΓ (by decide +kernel) hk
  · rw [if_neg hc] at h
    refine fhW.blk fhPF fhLL hΓ [(.iload_n 3, 0), (.iconst (-1), -1)] (pc' := 44) (lv' := [(0, .ref 56), (2, .int v2), (3, .int v3), (4, .int v4)]) (st' := [.int (-1 : Int32), .int v3]) (σ' := σ) (by decide +kernel) rfl rfl rfl ?_
    refine fhW.i_eq hΓ (tgt := 59) (show fhbk _ _ (.if_icmp .eq (15)) _ = true by decide +kernel) (fun hc => ?_) (fun hc => ?_)
    · rw [if_pos hc] at h
      refine fhW.sub (lv' := [(0, .ref 56), (2, .int v2), (3, .int v3), (4, .int v4)]) [0, 1, 2, 3] rfl ?_
      exact L_X4_fewestFacts_59 hE hΓ hd v2 v3 v4 σ _ h hk
    · rw [if_neg hc] at h
      refine fhW.blk fhPF fhLL hΓ [(.iload 4, 0)] (pc' := 49) (lv' := [(0, .ref 56), (2, .int v2), (3, .int v3), (4, .int v4)]) (st' := [.int v4]) (σ' := σ) (by decide +kernel) rfl rfl rfl ?_
      refine fhW.calls hΓ msJ6_bitCount_0f7a4 ml_4_117 (av := [.int v4]) (rest := []) (r := (some (.int (f_J6_bitCount_0f7a4 v4 σ)))) (σ' := σ) (T_J6_bitCount_0f7a4 (E := fhEn Γ) (d := fhD Γ - 1) hE (by omega) v4 σ) (by omega) (by decide +kernel) rfl (Nat.le_of_ble_eq_true rfl) rfl ?_
      show fhW fhYF Γ 52 [(0, .ref 56), (2, .int v2), (3, .int v3), (4, .int v4)] [.int (f_J6_bitCount_0f7a4 v4 σ)] σ
      refine fhW.blk fhPF fhLL hΓ [(.iload_n 3, 0)] (pc' := 53) (lv' := [(0, .ref 56), (2, .int v2), (3, .int v3), (4, .int v4)]) (st' := [.int v3, .int (f_J6_bitCount_0f7a4 v4 σ)]) (σ' := σ) (by decide +kernel) rfl rfl rfl ?_
      refine fhW.calls hΓ msJ6_bitCount_0f7a4 ml_4_117 (av := [.int v3]) (rest := [.int (f_J6_bitCount_0f7a4 v4 σ)]) (r := (some (.int (f_J6_bitCount_0f7a4 v3 σ)))) (σ' := σ) (T_J6_bitCount_0f7a4 (E := fhEn Γ) (d := fhD Γ - 1) hE (by omega) v3 σ) (by omega) (by decide +kernel) rfl (Nat.le_of_ble_eq_true rfl) rfl ?_
      show fhW fhYF Γ 56 [(0, .ref 56), (2, .int v2), (3, .int v3), (4, .int v4)] [.int (f_J6_bitCount_0f7a4 v3 σ), .int (f_J6_bitCount_0f7a4 v4 σ)] σ
      refine fhW.i_ge hΓ (tgt := 63) (show fhbk _ _ (.if_icmp .ge (7)) _ = true by decide +kernel) (fun hc => ?_) (fun hc => ?_)
      · rw [if_pos hc] at h
        refine fhW.blk fhPF fhLL hΓ [(.iconst 0, 0)] (pc' := 64) (lv' := [(0, .ref 56), (2, .int v2), (3, .int v3), (4, .int v4)]) (st' := [.int (0 : Int32)]) (σ' := σ) (by decide +kernel) rfl rfl rfl ?_
        refine fhW.sub (lv' := [(0, .ref 56), (2, .int v2), (3, .int v3), (4, .int v4)]) [0, 1, 2, 3] rfl ?_
        exact L_X4_fewestFacts_64 hE hΓ hd v2 v3 v4 (0 : Int32) σ _ h hk
      · rw [if_neg hc] at h
        refine fhW.sub (lv' := [(0, .ref 56), (2, .int v2), (3, .int v3), (4, .int v4)]) [0, 1, 2, 3] rfl ?_
        exact L_X4_fewestFacts_59 hE hΓ hd v2 v3 v4 σ _ h hk
set_option maxRecDepth 100000 in
set_option maxHeartbeats 4000000 in
theorem L_X4_fewestFacts_23 {Γ : fhX} (hE : fhEok fhYF (fhEn Γ)) (hΓ : fhOk fhYF 4 cX4_fewestFacts 6 (some .int) Γ) (hd : 4 ≤ fhD Γ) (v2 : Int32)  (σ : fhM) (o : Int32 × fhM) (h : f_X4_fewestFacts_23 v2 σ = some o) (hk : (fun o => fhRet Γ (some (.int o.1)) o.2) o) : fhW fhYF Γ 23 [(0, .ref 56), (2, .int v2)] [] σ := by
  unfold f_X4_fewestFacts_23 at h
  refine fhW.blk fhPF fhLL hΓ [(.iconst (-1), -1), (.istore_n 3, 0), (.iconst 0, 0), (.istore 4, 0)] (pc' := 28) (lv' := [(4, .int (0 : Int32)), (3, .int (-1 : Int32)), (0, .ref 56), (2, .int v2)]) (st' := []) (σ' := σ) (by decide +kernel) rfl rfl rfl ?_
  refine fhW.sub (lv' := [(0, .ref 56), (2, .int v2), (3, .int (-1 : Int32)), (4, .int (0 : Int32))]) [2, 3, 1, 0] rfl ?_
  exact fhlp_ok (W := (fun x => fhW fhYF Γ 28 [(0, .ref 56), (2, .int v2), (3, .int x.1), (4, .int x.2)] [] σ)) (B := (fun o => fhRet Γ (some (.int o.1)) o.2)) (fun x o h hk => L_X4_fewestFacts_28 hE hΓ hd v2 x.1 x.2 σ o h hk) ((-1 : Int32), (0 : Int32)) _ h hk
set_option maxRecDepth 100000 in
set_option maxHeartbeats 4000000 in
theorem L_X4_fewestFacts_E {Γ : fhX} (hE : fhEok fhYF (fhEn Γ)) (hΓ : fhOk fhYF 4 cX4_fewestFacts 6 (some .int) Γ) (hd : 4 ≤ fhD Γ) (v1 : Int32) (v2 : Int32)  (σ : fhM) (o : Int32 × fhM) (h : f_X4_fewestFacts v1 v2 σ = some o) (hk : (fun o => fhRet Γ (some (.int o.1)) o.2) o) : fhW fhYF Γ 0 [(0, .ref 56), (1, .int v1), (2, .int v2)] [] σ := by
  unfold f_X4_fewestFacts at h
  refine fhW.blk fhPF fhLL hΓ [(.aload_n 0, 0), (.iload_n 1, 0), (.aload_n 0, 0), (.getfield 30, 0)] (pc' := 6) (lv' := [(0, .ref 56), (1, .int v1), (2, .int v2)]) (st' := [.ref 68, .int v1, .ref 56]) (σ' := σ) (by decide +kernel) rfl rfl rfl ?_
  obtain ⟨q1, hb3, h⟩ := Option.bind_eq_some_iff.mp h
  refine fhW.callv hΓ mvX4_gatherDoubts ml_4_110 (t := 56) (ci := 4) (av := [.int v1, .ref 68]) (rest := []) (r := none) (σ' := q1) (T_X4_gatherDoubts (E := fhEn Γ) (d := fhD Γ - 1) hE (by omega) v1 68 rfl σ hb3) (by omega) (by decide +kernel) rfl rfl rfl (Nat.le_of_ble_eq_true rfl) rfl ?_
  show fhW fhYF Γ 9 [(0, .ref 56), (1, .int v1), (2, .int v2)] [] q1
  refine fhW.blk fhPF fhLL hΓ [(.iload_n 2, 0), (.iconst (-1), -1)] (pc' := 11) (lv' := [(0, .ref 56), (1, .int v1), (2, .int v2)]) (st' := [.int (-1 : Int32), .int v2]) (σ' := q1) (by decide +kernel) rfl rfl rfl ?_
  refine fhW.i_eq hΓ (tgt := 23) (show fhbk _ _ (.if_icmp .eq (12)) _ = true by decide +kernel) (fun hc => ?_) (fun hc => ?_)
  · rw [if_pos hc] at h
    refine fhW.sub (lv' := [(0, .ref 56), (2, .int v2)]) [0, 2] rfl ?_
    exact L_X4_fewestFacts_23 hE hΓ hd v2 q1 _ h hk
  · rw [if_neg hc] at h
    refine fhW.blk fhPF fhLL hΓ [(.aload_n 0, 0), (.iload_n 2, 0), (.aload_n 0, 0), (.getfield 33, 0)] (pc' := 20) (lv' := [(0, .ref 56), (1, .int v1), (2, .int v2)]) (st' := [.ref 70, .int v2, .ref 56]) (σ' := q1) (by decide +kernel) rfl rfl rfl ?_
    obtain ⟨q2, hb4, h⟩ := Option.bind_eq_some_iff.mp h
    refine fhW.callv hΓ mvX4_gatherDoubts ml_4_110 (t := 56) (ci := 4) (av := [.int v2, .ref 70]) (rest := []) (r := none) (σ' := q2) (T_X4_gatherDoubts (E := fhEn Γ) (d := fhD Γ - 1) hE (by omega) v2 70 rfl q1 hb4) (by omega) (by decide +kernel) rfl rfl rfl (Nat.le_of_ble_eq_true rfl) rfl ?_
    show fhW fhYF Γ 23 [(0, .ref 56), (1, .int v1), (2, .int v2)] [] q2
    refine fhW.sub (lv' := [(0, .ref 56), (2, .int v2)]) [0, 2] rfl ?_
    exact L_X4_fewestFacts_23 hE hΓ hd v2 q2 _ h hk
set_option maxRecDepth 100000 in
theorem T_X4_fewestFacts {E : fhE} {d : Nat} (hE : fhEok fhYF E) (hd : 4 ≤ d) (v1 : Int32) (v2 : Int32)  (σ : fhM) {o : Int32 × fhM} (h : f_X4_fewestFacts v1 v2 σ = some o) : fhC fhYF E d miX4_fewestFacts [.ref 56, .int v1, .int v2] σ (some (.int o.1)) o.2 := by
  refine fhC.of (y := yX4_fewestFacts) (cc := cX4_fewestFacts) (nL := 6) (ret := (some .int)) 4 rfl (by decide +kernel) (Nat.le_of_ble_eq_true rfl) ?_
  intro Γ hΓ hR hD hEn
  subst hD; subst hEn
  exact L_X4_fewestFacts_E hE hΓ hd v1 v2  σ _ h hR
set_option maxRecDepth 100000 in
set_option maxHeartbeats 4000000 in
theorem L_X11_hints_E {Γ : fhX} (hE : fhEok fhYF (fhEn Γ)) (hΓ : fhOk fhYF 11 cX11_hints 2 (some .int) Γ) (hd : 5 ≤ fhD Γ) (v1 : Int32)  (σ : fhM) (o : Int32 × fhM) (h : f_X11_hints v1 σ = some o) (hk : (fun o => fhRet Γ (some (.int o.1)) o.2) o) : fhW fhYF Γ 0 [(0, .ref 0), (1, .int v1)] [] σ := by
  unfold f_X11_hints at h
  refine fhW.blk fhPF fhLL hΓ [(.aload_n 0, 0), (.iload_n 1, 0)] (pc' := 2) (lv' := [(0, .ref 0), (1, .int v1)]) (st' := [.int v1, .ref 0]) (σ' := σ) (by decide +kernel) rfl rfl rfl ?_
  refine fhW.callv hΓ mvX11_isGuest ml_11_212 (t := 0) (ci := 11) (av := [.int v1]) (rest := []) (r := (some (.int (fhb (f_X11_isGuest v1 σ))))) (σ' := σ) (T_X11_isGuest (E := fhEn Γ) (d := fhD Γ - 1) hE (by omega) v1 σ) (by omega) (by decide +kernel) rfl rfl rfl (Nat.le_of_ble_eq_true rfl) rfl ?_
  show fhW fhYF Γ 5 [(0, .ref 0), (1, .int v1)] [.int (fhb (f_X11_isGuest v1 σ))] σ
  refine fhW.b_eq hΓ (tgt := 20) (show fhbk _ _ (.ifCond .eq (15)) _ = true by decide +kernel) (fun hc => ?_) (fun hc => ?_)
  · rw [if_neg hc] at h
    refine fhW.blk fhPF fhLL hΓ [(.iconst (-1), -1)] (pc' := 21) (lv' := [(0, .ref 0), (1, .int v1)]) (st' := [.int (-1 : Int32)]) (σ' := σ) (by decide +kernel) rfl rfl rfl ?_
    have e9 := Option.some.inj h
    subst e9
    exact fhW.iret hΓ (by decide +kernel) hk
  · rw [if_pos hc] at h
    refine fhW.blk fhPF fhLL hΓ [(.aload_n 0, 0), (.getfield 72, 0), (.iload_n 1, 0), (.iconst (-1), -1)] (pc' := 14) (lv' := [(0, .ref 0), (1, .int v1)]) (st' := [.int (-1 : Int32), .int v1, .ref 56]) (σ' := σ) (by decide +kernel) rfl rfl rfl ?_
    obtain ⟨q1, hb1, h⟩ := Option.bind_eq_some_iff.mp h
    refine fhW.callv hΓ mvX4_fewestFacts ml_11_287 (t := 56) (ci := 4) (av := [.int v1, .int (-1 : Int32)]) (rest := []) (r := (some (.int q1.1))) (σ' := q1.2) (T_X4_fewestFacts (E := fhEn Γ) (d := fhD Γ - 1) hE (by omega) v1 (-1 : Int32) σ hb1) (by omega) (by decide +kernel) rfl rfl rfl (Nat.le_of_ble_eq_true rfl) rfl ?_
    show fhW fhYF Γ 17 [(0, .ref 0), (1, .int v1)] [.int q1.1] q1.2
    refine fhW.goto hΓ (off := 4) (tgt := 21) (by decide +kernel) ?_
    have e9 := Option.some.inj h
    subst e9
    exact fhW.iret hΓ (by decide +kernel) hk
set_option maxRecDepth 100000 in
theorem T_X11_hints {E : fhE} {d : Nat} (hE : fhEok fhYF E) (hd : 5 ≤ d) (v1 : Int32)  (σ : fhM) {o : Int32 × fhM} (h : f_X11_hints v1 σ = some o) : fhC fhYF E d miX11_hints [.ref 0, .int v1] σ (some (.int o.1)) o.2 := by
  refine fhC.of (y := yX11_hints) (cc := cX11_hints) (nL := 2) (ret := (some .int)) 11 rfl (by decide +kernel) (Nat.le_of_ble_eq_true rfl) ?_
  intro Γ hΓ hR hD hEn
  subst hD; subst hEn
  exact L_X11_hints_E hE hΓ hd v1  σ _ h hR
set_option maxRecDepth 100000 in
set_option maxHeartbeats 4000000 in
theorem L_X11_secret_E {Γ : fhX} (hE : fhEok fhYF (fhEn Γ)) (hΓ : fhOk fhYF 11 cX11_secret 3 (some .int) Γ) (hd : 5 ≤ fhD Γ) (v1 : Int32) (v2 : Int32)  (σ : fhM) (o : Int32 × fhM) (h : f_X11_secret v1 v2 σ = some o) (hk : (fun o => fhRet Γ (some (.int o.1)) o.2) o) : fhW fhYF Γ 0 [(0, .ref 0), (1, .int v1), (2, .int v2)] [] σ := by
  unfold f_X11_secret at h
  refine fhW.blk fhPF fhLL hΓ [(.aload_n 0, 0), (.iload_n 1, 0), (.iload_n 2, 0)] (pc' := 3) (lv' := [(0, .ref 0), (1, .int v1), (2, .int v2)]) (st' := [.int v2, .int v1, .ref 0]) (σ' := σ) (by decide +kernel) rfl rfl rfl ?_
  refine fhW.callv hΓ mvX11_isPair ml_11_266 (t := 0) (ci := 11) (av := [.int v1, .int v2]) (rest := []) (r := (some (.int (fhb (f_X11_isPair v1 v2 σ))))) (σ' := σ) (T_X11_isPair (E := fhEn Γ) (d := fhD Γ - 1) hE (by omega) v1 v2 σ) (by omega) (by decide +kernel) rfl rfl rfl (Nat.le_of_ble_eq_true rfl) rfl ?_
  show fhW fhYF Γ 6 [(0, .ref 0), (1, .int v1), (2, .int v2)] [.int (fhb (f_X11_isPair v1 v2 σ))] σ
  refine fhW.b_eq hΓ (tgt := 21) (show fhbk _ _ (.ifCond .eq (15)) _ = true by decide +kernel) (fun hc => ?_) (fun hc => ?_)
  · rw [if_neg hc] at h
    refine fhW.blk fhPF fhLL hΓ [(.iconst (-1), -1)] (pc' := 22) (lv' := [(0, .ref 0), (1, .int v1), (2, .int v2)]) (st' := [.int (-1 : Int32)]) (σ' := σ) (by decide +kernel) rfl rfl rfl ?_
    have e9 := Option.some.inj h
    subst e9
    exact fhW.iret hΓ (by decide +kernel) hk
  · rw [if_pos hc] at h
    refine fhW.blk fhPF fhLL hΓ [(.aload_n 0, 0), (.getfield 72, 0), (.iload_n 1, 0), (.iload_n 2, 0)] (pc' := 15) (lv' := [(0, .ref 0), (1, .int v1), (2, .int v2)]) (st' := [.int v2, .int v1, .ref 56]) (σ' := σ) (by decide +kernel) rfl rfl rfl ?_
    obtain ⟨q1, hb1, h⟩ := Option.bind_eq_some_iff.mp h
    refine fhW.callv hΓ mvX4_fewestFacts ml_11_287 (t := 56) (ci := 4) (av := [.int v1, .int v2]) (rest := []) (r := (some (.int q1.1))) (σ' := q1.2) (T_X4_fewestFacts (E := fhEn Γ) (d := fhD Γ - 1) hE (by omega) v1 v2 σ hb1) (by omega) (by decide +kernel) rfl rfl rfl (Nat.le_of_ble_eq_true rfl) rfl ?_
    show fhW fhYF Γ 18 [(0, .ref 0), (1, .int v1), (2, .int v2)] [.int q1.1] q1.2
    refine fhW.goto hΓ (off := 4) (tgt := 22) (by decide +kernel) ?_
    have e9 := Option.some.inj h
    subst e9
    exact fhW.iret hΓ (by decide +kernel) hk
set_option maxRecDepth 100000 in
theorem T_X11_secret {E : fhE} {d : Nat} (hE : fhEok fhYF E) (hd : 5 ≤ d) (v1 : Int32) (v2 : Int32)  (σ : fhM) {o : Int32 × fhM} (h : f_X11_secret v1 v2 σ = some o) : fhC fhYF E d miX11_secret [.ref 0, .int v1, .int v2] σ (some (.int o.1)) o.2 := by
  refine fhC.of (y := yX11_secret) (cc := cX11_secret) (nL := 3) (ret := (some .int)) 11 rfl (by decide +kernel) (Nat.le_of_ble_eq_true rfl) ?_
  intro Γ hΓ hR hD hEn
  subst hD; subst hEn
  exact L_X11_secret_E hE hΓ hd v1 v2  σ _ h hR
set_option maxRecDepth 100000 in
set_option maxHeartbeats 4000000 in
theorem L_X4_bestSpeaker_46 {Γ : fhX} (hE : fhEok fhYF (fhEn Γ)) (hΓ : fhOk fhYF 4 cX4_bestSpeaker 5 (some .int) Γ) (hd : 2 ≤ fhD Γ) (v1 : Int32) (v2 : Int32) (v3 : Int32)  (σ : fhM) (o : (Int32 × Int32 × Int32) ⊕ (Int32)) (h : f_X4_bestSpeaker_46 v1 v2 v3 σ = some o) (hk : (fhK (fun x => fhW fhYF Γ 6 [(0, .ref 56), (1, .int x.1), (2, .int x.2.1), (3, .int x.2.2)] [] σ) (fun o => fhRet Γ (some (.int o)) σ)) o) : fhW fhYF Γ 46 [(0, .ref 56), (1, .int v1), (2, .int v2), (3, .int v3)] [] σ := by
  unfold f_X4_bestSpeaker_46 at h
  refine fhW.blk fhPF fhLL hΓ [(.iinc 3 1, 1)] (pc' := 49) (lv' := [(3, .int (v3 + (1 : Int32))), (0, .ref 56), (1, .int v1), (2, .int v2)]) (st' := []) (σ' := σ) (by decide +kernel) rfl rfl rfl ?_
  refine fhW.goto hΓ (off := (-43)) (tgt := 6) (by decide +kernel) ?_
  refine fhW.sub (lv' := [(0, .ref 56), (1, .int v1), (2, .int v2), (3, .int (v3 + (1 : Int32)))]) [1, 2, 3, 0] rfl ?_
  have e9 := Option.some.inj h
  subst e9
  exact hk
set_option maxRecDepth 100000 in
set_option maxHeartbeats 4000000 in
theorem L_X4_bestSpeaker_41 {Γ : fhX} (hE : fhEok fhYF (fhEn Γ)) (hΓ : fhOk fhYF 4 cX4_bestSpeaker 5 (some .int) Γ) (hd : 2 ≤ fhD Γ) (v3 : Int32) (v4 : Int32)  (σ : fhM) (o : (Int32 × Int32 × Int32) ⊕ (Int32)) (h : f_X4_bestSpeaker_41 v3 v4 σ = some o) (hk : (fhK (fun x => fhW fhYF Γ 6 [(0, .ref 56), (1, .int x.1), (2, .int x.2.1), (3, .int x.2.2)] [] σ) (fun o => fhRet Γ (some (.int o)) σ)) o) : fhW fhYF Γ 41 [(0, .ref 56), (3, .int v3), (4, .int v4)] [] σ := by
  unfold f_X4_bestSpeaker_41 at h
  refine fhW.blk fhPF fhLL hΓ [(.iload_n 3, 0), (.istore_n 1, 0), (.iload 4, 0), (.istore_n 2, 0)] (pc' := 46) (lv' := [(2, .int v4), (1, .int v3), (0, .ref 56), (3, .int v3), (4, .int v4)]) (st' := []) (σ' := σ) (by decide +kernel) rfl rfl rfl ?_
  refine fhW.sub (lv' := [(0, .ref 56), (1, .int v3), (2, .int v4), (3, .int v3)]) [2, 1, 0, 3] rfl ?_
  exact L_X4_bestSpeaker_46 hE hΓ hd v3 v4 v3 σ _ h hk
set_option maxRecDepth 100000 in
set_option maxHeartbeats 4000000 in
theorem L_X4_bestSpeaker_6 {Γ : fhX} (hE : fhEok fhYF (fhEn Γ)) (hΓ : fhOk fhYF 4 cX4_bestSpeaker 5 (some .int) Γ) (hd : 2 ≤ fhD Γ) (v1 : Int32) (v2 : Int32) (v3 : Int32)  (σ : fhM) (o : (Int32 × Int32 × Int32) ⊕ (Int32)) (h : f_X4_bestSpeaker_6 v1 v2 v3 σ = some o) (hk : (fhK (fun x => fhW fhYF Γ 6 [(0, .ref 56), (1, .int x.1), (2, .int x.2.1), (3, .int x.2.2)] [] σ) (fun o => fhRet Γ (some (.int o)) σ)) o) : fhW fhYF Γ 6 [(0, .ref 56), (1, .int v1), (2, .int v2), (3, .int v3)] [] σ := by
  unfold f_X4_bestSpeaker_6 at h
  refine fhW.blk fhPF fhLL hΓ [(.iload_n 3, 0), (.aload_n 0, 0), (.getfield 42, 0), (.getfield 97, 0)] (pc' := 14) (lv' := [(0, .ref 56), (1, .int v1), (2, .int v2), (3, .int v3)]) (st' := [.int (σ.1 39 9), .int v3]) (σ' := σ) (by decide +kernel) rfl rfl rfl ?_
  refine fhW.i_ge hΓ (tgt := 52) (show fhbk _ _ (.if_icmp .ge (38)) _ = true by decide +kernel) (fun hc => ?_) (fun hc => ?_)
  · rw [if_pos hc] at h
    refine fhW.blk fhPF fhLL hΓ [(.iload_n 1, 0)] (pc' := 53) (lv' := [(0, .ref 56), (1, .int v1), (2, .int v2), (3, .int v3)]) (st' := [.int v1]) (σ' := σ) (by decide +kernel) rfl rfl rfl ?_
    have e9 := Option.some.inj h
    subst e9
    exact fhW.iret hΓ (by decide +kernel) hk
  · rw [if_neg hc] at h
    refine fhW.blk fhPF fhLL hΓ [(.aload_n 0, 0), (.aload_n 0, 0), (.getfield 39, 0), (.iconst 1, 1), (.iload_n 3, 0), (.ishl, 0)] (pc' := 25) (lv' := [(0, .ref 56), (1, .int v1), (2, .int v2), (3, .int v3)]) (st' := [.int ((1 : Int32) <<< (v3 &&& 31)), .ref 74, .ref 56]) (σ' := σ) (by decide +kernel) rfl rfl rfl ?_
    obtain ⟨q1, hb1, h⟩ := Option.bind_eq_some_iff.mp h
    refine fhW.callv hΓ mvX4_countAlike ml_4_132 (t := 56) (ci := 4) (av := [.ref 74, .int ((1 : Int32) <<< (v3 &&& 31))]) (rest := []) (r := (some (.int q1))) (σ' := σ) (T_X4_countAlike (E := fhEn Γ) (d := fhD Γ - 1) hE (by omega) 74 ((1 : Int32) <<< (v3 &&& 31)) rfl σ hb1) (by omega) (by decide +kernel) rfl rfl rfl (Nat.le_of_ble_eq_true rfl) rfl ?_
    show fhW fhYF Γ 28 [(0, .ref 56), (1, .int v1), (2, .int v2), (3, .int v3)] [.int q1] σ
    refine fhW.blk fhPF fhLL hΓ [(.istore 4, 0), (.iload_n 1, 0), (.iconst (-1), -1)] (pc' := 32) (lv' := [(4, .int q1), (0, .ref 56), (1, .int v1), (2, .int v2), (3, .int v3)]) (st' := [.int (-1 : Int32), .int v1]) (σ' := σ) (by decide +kernel) rfl rfl rfl ?_
    refine fhW.i_eq hΓ (tgt := 41) (show fhbk _ _ (.if_icmp .eq (9)) _ = true by decide +kernel) (fun hc => ?_) (fun hc => ?_)
    · rw [if_pos hc] at h
      refine fhW.sub (lv' := [(0, .ref 56), (3, .int v3), (4, .int q1)]) [1, 4, 0] rfl ?_
      exact L_X4_bestSpeaker_41 hE hΓ hd v3 q1 σ _ h hk
    · rw [if_neg hc] at h
      refine fhW.blk fhPF fhLL hΓ [(.iload 4, 0), (.iload_n 2, 0)] (pc' := 38) (lv' := [(4, .int q1), (0, .ref 56), (1, .int v1), (2, .int v2), (3, .int v3)]) (st' := [.int v2, .int q1]) (σ' := σ) (by decide +kernel) rfl rfl rfl ?_
      refine fhW.i_ge hΓ (tgt := 46) (show fhbk _ _ (.if_icmp .ge (8)) _ = true by decide +kernel) (fun hc => ?_) (fun hc => ?_)
      · rw [if_pos hc] at h
        refine fhW.sub (lv' := [(0, .ref 56), (1, .int v1), (2, .int v2), (3, .int v3)]) [1, 2, 3, 4] rfl ?_
        exact L_X4_bestSpeaker_46 hE hΓ hd v1 v2 v3 σ _ h hk
      · rw [if_neg hc] at h
        refine fhW.sub (lv' := [(0, .ref 56), (3, .int v3), (4, .int q1)]) [1, 4, 0] rfl ?_
        exact L_X4_bestSpeaker_41 hE hΓ hd v3 q1 σ _ h hk
set_option maxRecDepth 100000 in
set_option maxHeartbeats 4000000 in
theorem L_X4_bestSpeaker_E {Γ : fhX} (hE : fhEok fhYF (fhEn Γ)) (hΓ : fhOk fhYF 4 cX4_bestSpeaker 5 (some .int) Γ) (hd : 2 ≤ fhD Γ)   (σ : fhM) (o : Int32) (h : f_X4_bestSpeaker σ = some o) (hk : (fun o => fhRet Γ (some (.int o)) σ) o) : fhW fhYF Γ 0 [(0, .ref 56)] [] σ := by
  unfold f_X4_bestSpeaker at h
  refine fhW.blk fhPF fhLL hΓ [(.iconst (-1), -1), (.istore_n 1, 0), (.iconst 0, 0), (.istore_n 2, 0), (.iconst 0, 0), (.istore_n 3, 0)] (pc' := 6) (lv' := [(3, .int (0 : Int32)), (2, .int (0 : Int32)), (1, .int (-1 : Int32)), (0, .ref 56)]) (st' := []) (σ' := σ) (by decide +kernel) rfl rfl rfl ?_
  refine fhW.sub (lv' := [(0, .ref 56), (1, .int (-1 : Int32)), (2, .int (0 : Int32)), (3, .int (0 : Int32))]) [3, 2, 1, 0] rfl ?_
  exact fhlp_ok (W := (fun x => fhW fhYF Γ 6 [(0, .ref 56), (1, .int x.1), (2, .int x.2.1), (3, .int x.2.2)] [] σ)) (B := (fun o => fhRet Γ (some (.int o)) σ)) (fun x o h hk => L_X4_bestSpeaker_6 hE hΓ hd x.1 x.2.1 x.2.2 σ o h hk) ((-1 : Int32), (0 : Int32), (0 : Int32)) _ h hk
set_option maxRecDepth 100000 in
theorem T_X4_bestSpeaker {E : fhE} {d : Nat} (hE : fhEok fhYF E) (hd : 2 ≤ d)   (σ : fhM) {o : Int32} (h : f_X4_bestSpeaker σ = some o) : fhC fhYF E d miX4_bestSpeaker [.ref 56] σ (some (.int o)) σ := by
  refine fhC.of (y := yX4_bestSpeaker) (cc := cX4_bestSpeaker) (nL := 5) (ret := (some .int)) 4 rfl (by decide +kernel) (Nat.le_of_ble_eq_true rfl) ?_
  intro Γ hΓ hR hD hEn
  subst hD; subst hEn
  exact L_X4_bestSpeaker_E hE hΓ hd   σ _ h hR
set_option maxRecDepth 100000 in
set_option maxHeartbeats 4000000 in
theorem L_X11_speaker_E {Γ : fhX} (hE : fhEok fhYF (fhEn Γ)) (hΓ : fhOk fhYF 11 cX11_speaker 3 (some .int) Γ) (hd : 3 ≤ fhD Γ) (v1 : Int32)  (σ : fhM) (o : Int32) (h : f_X11_speaker v1 σ = some o) (hk : (fun o => fhRet Γ (some (.int o)) σ) o) : fhW fhYF Γ 0 [(0, .ref 0), (1, .int v1)] [] σ := by
  unfold f_X11_speaker at h
  refine fhW.blk fhPF fhLL hΓ [(.aload_n 0, 0), (.getfield 72, 0)] (pc' := 4) (lv' := [(0, .ref 0), (1, .int v1)]) (st' := [.ref 56]) (σ' := σ) (by decide +kernel) rfl rfl rfl ?_
  obtain ⟨q1, hb1, h⟩ := Option.bind_eq_some_iff.mp h
  refine fhW.callv hΓ mvX4_bestSpeaker ml_11_290 (t := 56) (ci := 4) (av := []) (rest := []) (r := (some (.int q1))) (σ' := σ) (T_X4_bestSpeaker (E := fhEn Γ) (d := fhD Γ - 1) hE (by omega) σ hb1) (by omega) (by decide +kernel) rfl rfl rfl (Nat.le_of_ble_eq_true rfl) rfl ?_
  show fhW fhYF Γ 7 [(0, .ref 0), (1, .int v1)] [.int q1] σ
  refine fhW.blk fhPF fhLL hΓ [(.istore_n 2, 0), (.iload_n 2, 0), (.iconst (-1), -1)] (pc' := 10) (lv' := [(2, .int q1), (0, .ref 0), (1, .int v1)]) (st' := [.int (-1 : Int32), .int q1]) (σ' := σ) (by decide +kernel) rfl rfl rfl ?_
  refine fhW.i_eq hΓ (tgt := 22) (show fhbk _ _ (.if_icmp .eq (12)) _ = true by decide +kernel) (fun hc => ?_) (fun hc => ?_)
  · rw [if_pos hc] at h
    refine fhW.blk fhPF fhLL hΓ [(.iconst (-1), -1)] (pc' := 23) (lv' := [(2, .int q1), (0, .ref 0), (1, .int v1)]) (st' := [.int (-1 : Int32)]) (σ' := σ) (by decide +kernel) rfl rfl rfl ?_
    have e9 := Option.some.inj h
    subst e9
    exact fhW.iret hΓ (by decide +kernel) hk
  · rw [if_neg hc] at h
    refine fhW.blk fhPF fhLL hΓ [(.iload_n 1, 0)] (pc' := 14) (lv' := [(2, .int q1), (0, .ref 0), (1, .int v1)]) (st' := [.int v1]) (σ' := σ) (by decide +kernel) rfl rfl rfl ?_
    refine fhW.z_lt hΓ (tgt := 22) (show fhbk _ _ (.ifCond .lt (8)) _ = true by decide +kernel) (fun hc => ?_) (fun hc => ?_)
    · rw [if_pos hc] at h
      refine fhW.blk fhPF fhLL hΓ [(.iconst (-1), -1)] (pc' := 23) (lv' := [(2, .int q1), (0, .ref 0), (1, .int v1)]) (st' := [.int (-1 : Int32)]) (σ' := σ) (by decide +kernel) rfl rfl rfl ?_
      have e9 := Option.some.inj h
      subst e9
      exact fhW.iret hΓ (by decide +kernel) hk
    · rw [if_neg hc] at h
      refine fhW.blk fhPF fhLL hΓ [(.iload_n 1, 0), (.iconst 1, 1)] (pc' := 19) (lv' := [(2, .int q1), (0, .ref 0), (1, .int v1)]) (st' := [.int (1 : Int32), .int v1]) (σ' := σ) (by decide +kernel) rfl rfl rfl ?_
      refine fhW.i_le hΓ (tgt := 24) (show fhbk _ _ (.if_icmp .le (5)) _ = true by decide +kernel) (fun hc => ?_) (fun hc => ?_)
      · rw [if_pos hc] at h
        refine fhW.blk fhPF fhLL hΓ [(.iload_n 1, 0)] (pc' := 25) (lv' := [(2, .int q1), (0, .ref 0), (1, .int v1)]) (st' := [.int v1]) (σ' := σ) (by decide +kernel) rfl rfl rfl ?_
        refine fhW.z_ne hΓ (tgt := 32) (show fhbk _ _ (.ifCond .ne (7)) _ = true by decide +kernel) (fun hc => ?_) (fun hc => ?_)
        · rw [if_neg hc] at h
          refine fhW.blk fhPF fhLL hΓ [(.aload_n 0, 0), (.getfield 72, 0), (.aload_n 0, 0), (.getfield 72, 0), (.getfield 293, 0), (.iconst 1, 1), (.iload_n 2, 0), (.ishl, 0)] (pc' := 46) (lv' := [(2, .int q1), (0, .ref 0), (1, .int v1)]) (st' := [.int ((1 : Int32) <<< (q1 &&& 31)), .ref 74, .ref 56]) (σ' := σ) (by decide +kernel) rfl rfl rfl ?_
          obtain ⟨q2, hb2, h⟩ := Option.bind_eq_some_iff.mp h
          refine fhW.callv hΓ mvX4_countAlike ml_11_250 (t := 56) (ci := 4) (av := [.ref 74, .int ((1 : Int32) <<< (q1 &&& 31))]) (rest := []) (r := (some (.int q2))) (σ' := σ) (T_X4_countAlike (E := fhEn Γ) (d := fhD Γ - 1) hE (by omega) 74 ((1 : Int32) <<< (q1 &&& 31)) rfl σ hb2) (by omega) (by decide +kernel) rfl rfl rfl (Nat.le_of_ble_eq_true rfl) rfl ?_
          show fhW fhYF Γ 49 [(2, .int q1), (0, .ref 0), (1, .int v1)] [.int q2] σ
          have e9 := Option.some.inj h
          subst e9
          exact fhW.iret hΓ (by decide +kernel) hk
        · rw [if_pos hc] at h
          refine fhW.blk fhPF fhLL hΓ [(.iload_n 2, 0)] (pc' := 29) (lv' := [(2, .int q1), (0, .ref 0), (1, .int v1)]) (st' := [.int q1]) (σ' := σ) (by decide +kernel) rfl rfl rfl ?_
          refine fhW.goto hΓ (off := 20) (tgt := 49) (by decide +kernel) ?_
          have e9 := Option.some.inj h
          subst e9
          exact fhW.iret hΓ (by decide +kernel) hk
      · rw [if_neg hc] at h
        refine fhW.blk fhPF fhLL hΓ [(.iconst (-1), -1)] (pc' := 23) (lv' := [(2, .int q1), (0, .ref 0), (1, .int v1)]) (st' := [.int (-1 : Int32)]) (σ' := σ) (by decide +kernel) rfl rfl rfl ?_
        have e9 := Option.some.inj h
        subst e9
        exact fhW.iret hΓ (by decide +kernel) hk
set_option maxRecDepth 100000 in
theorem T_X11_speaker {E : fhE} {d : Nat} (hE : fhEok fhYF E) (hd : 3 ≤ d) (v1 : Int32)  (σ : fhM) {o : Int32} (h : f_X11_speaker v1 σ = some o) : fhC fhYF E d miX11_speaker [.ref 0, .int v1] σ (some (.int o)) σ := by
  refine fhC.of (y := yX11_speaker) (cc := cX11_speaker) (nL := 3) (ret := (some .int)) 11 rfl (by decide +kernel) (Nat.le_of_ble_eq_true rfl) ?_
  intro Γ hΓ hR hD hEn
  subst hD; subst hEn
  exact L_X11_speaker_E hE hΓ hd v1  σ _ h hR
set_option maxRecDepth 100000 in
set_option maxHeartbeats 4000000 in
theorem L_X1_start_40 {Γ : fhX} (hE : fhEok fhYF (fhEn Γ)) (hΓ : fhOk fhYF 1 cX1_start 2 none Γ) (hd : 1 ≤ fhD Γ) (v1 : Int32)  (σ : fhM) (o : (Int32 × fhM) ⊕ (fhM)) (h : f_X1_start_40 v1 σ = some o) (hk : (fhK (fun x => fhW fhYF Γ 40 [(0, .ref 76), (1, .int x.1)] [] x.2) (fun o => fhRet Γ none o)) o) : fhW fhYF Γ 40 [(0, .ref 76), (1, .int v1)] [] σ := by
  unfold f_X1_start_40 at h
  refine fhW.blk fhPF fhLL hΓ [(.iload_n 1, 0), (.sipush 5120, 5120)] (pc' := 44) (lv' := [(0, .ref 76), (1, .int v1)]) (st' := [.int (5120 : Int32), .int v1]) (σ' := σ) (by decide +kernel) rfl rfl rfl ?_
  refine fhW.i_ge hΓ (tgt := 63) (show fhbk _ _ (.if_icmp .ge (19)) _ = true by decide +kernel) (fun hc => ?_) (fun hc => ?_)
  · rw [if_pos hc] at h
    refine fhW.blk fhPF fhLL hΓ [(.aload_n 0, 0), (.iconst 1, 1), (.putfield 56, 0), (.aload_n 0, 0), (.getfield 23, 0), (.iconst 0, 0), (.iconst 0, 0)] (pc' := 74) (lv' := [(0, .ref 76), (1, .int v1)]) (st' := [.int (0 : Int32), .int (0 : Int32), .ref (σ.2.2 76 3)]) (σ' := (fhI σ 76 5 (1 : Int32))) (by decide +kernel) rfl rfl rfl ?_
    obtain ⟨hy1, h⟩ := fhif h
    refine fhW.callv hΓ mvX2_put ml_1_74 (t := (σ.2.2 76 3)) (ci := 2) (av := [.int (0 : Int32), .int (0 : Int32)]) (rest := []) (r := none) (σ' := (fcP (fhI σ 76 5 (1 : Int32)) (σ.2.2 76 3) (0 : Int32) (0 : Int32))) (T_X2_put (E := fhEn Γ) (d := fhD Γ - 1) hE (by omega) (σ.2.2 76 3) (0 : Int32) (0 : Int32) hy1 (fhI σ 76 5 (1 : Int32))) (by omega) (by decide +kernel) rfl (fhiC_g hy1) rfl (Nat.le_of_ble_eq_true rfl) rfl ?_
    show fhW fhYF Γ 77 [(0, .ref 76), (1, .int v1)] [] (fcP (fhI σ 76 5 (1 : Int32)) (σ.2.2 76 3) (0 : Int32) (0 : Int32))
    refine fhW.blk fhPF fhLL hΓ [(.aload_n 0, 0), (.getfield 23, 0), (.iconst 1, 1), (.aload_n 0, 0), (.getfield 41, 0), (.getfield 62, 0)] (pc' := 89) (lv' := [(0, .ref 76), (1, .int v1)]) (st' := [.int ((fcP (fhI σ 76 5 (1 : Int32)) (σ.2.2 76 3) (0 : Int32) (0 : Int32)).1 39 12), .int (1 : Int32), .ref (σ.2.2 76 3)]) (σ' := (fcP (fhI σ 76 5 (1 : Int32)) (σ.2.2 76 3) (0 : Int32) (0 : Int32))) (by decide +kernel) rfl rfl rfl ?_
    refine fhW.callv hΓ mvX2_put ml_1_74 (t := (σ.2.2 76 3)) (ci := 2) (av := [.int (1 : Int32), .int ((fcP (fhI σ 76 5 (1 : Int32)) (σ.2.2 76 3) (0 : Int32) (0 : Int32)).1 39 12)]) (rest := []) (r := none) (σ' := (fcP (fcP (fhI σ 76 5 (1 : Int32)) (σ.2.2 76 3) (0 : Int32) (0 : Int32)) (σ.2.2 76 3) (1 : Int32) ((fcP (fhI σ 76 5 (1 : Int32)) (σ.2.2 76 3) (0 : Int32) (0 : Int32)).1 39 12))) (T_X2_put (E := fhEn Γ) (d := fhD Γ - 1) hE (by omega) (σ.2.2 76 3) (1 : Int32) ((fcP (fhI σ 76 5 (1 : Int32)) (σ.2.2 76 3) (0 : Int32) (0 : Int32)).1 39 12) hy1 (fcP (fhI σ 76 5 (1 : Int32)) (σ.2.2 76 3) (0 : Int32) (0 : Int32))) (by omega) (by decide +kernel) rfl (fhiC_g hy1) rfl (Nat.le_of_ble_eq_true rfl) rfl ?_
    show fhW fhYF Γ 92 [(0, .ref 76), (1, .int v1)] [] (fcP (fcP (fhI σ 76 5 (1 : Int32)) (σ.2.2 76 3) (0 : Int32) (0 : Int32)) (σ.2.2 76 3) (1 : Int32) ((fcP (fhI σ 76 5 (1 : Int32)) (σ.2.2 76 3) (0 : Int32) (0 : Int32)).1 39 12))
    have e9 := Option.some.inj h
    subst e9
    exact fhW.vret hΓ (by decide +kernel) hk
  · rw [if_neg hc] at h
    refine fhW.blk fhPF fhLL hΓ [(.aload_n 0, 0), (.getfield 32, 0), (.iload_n 1, 0), (.bipush 99, 99)] (pc' := 54) (lv' := [(0, .ref 76), (1, .int v1)]) (st' := [.int (99 : Int32), .int v1, .ref 87]) (σ' := σ) (by decide +kernel) rfl rfl rfl ?_
    refine fhW.callv hΓ mvX2_put ml_1_74 (t := 87) (ci := 2) (av := [.int v1, .int (99 : Int32)]) (rest := []) (r := none) (σ' := (fcP σ 87 v1 (99 : Int32))) (T_X2_put (E := fhEn Γ) (d := fhD Γ - 1) hE (by omega) 87 v1 (99 : Int32) rfl σ) (by omega) (by decide +kernel) rfl rfl rfl (Nat.le_of_ble_eq_true rfl) rfl ?_
    show fhW fhYF Γ 57 [(0, .ref 76), (1, .int v1)] [] (fcP σ 87 v1 (99 : Int32))
    refine fhW.blk fhPF fhLL hΓ [(.iinc 1 1, 1)] (pc' := 60) (lv' := [(1, .int (v1 + (1 : Int32))), (0, .ref 76)]) (st' := []) (σ' := (fcP σ 87 v1 (99 : Int32))) (by decide +kernel) rfl rfl rfl ?_
    refine fhW.goto hΓ (off := (-20)) (tgt := 40) (by decide +kernel) ?_
    refine fhW.sub (lv' := [(0, .ref 76), (1, .int (v1 + (1 : Int32)))]) [1, 0] rfl ?_
    have e9 := Option.some.inj h
    subst e9
    exact hk
set_option maxRecDepth 100000 in
set_option maxHeartbeats 4000000 in
theorem L_X1_start_2 {Γ : fhX} (hE : fhEok fhYF (fhEn Γ)) (hΓ : fhOk fhYF 1 cX1_start 2 none Γ) (hd : 1 ≤ fhD Γ) (v1 : Int32)  (σ : fhM) (o : (Int32 × fhM) ⊕ (fhM)) (h : f_X1_start_2 v1 σ = some o) (hk : (fhK (fun x => fhW fhYF Γ 2 [(0, .ref 76), (1, .int x.1)] [] x.2) (fun o => fhRet Γ none o)) o) : fhW fhYF Γ 2 [(0, .ref 76), (1, .int v1)] [] σ := by
  unfold f_X1_start_2 at h
  refine fhW.blk fhPF fhLL hΓ [(.iload_n 1, 0), (.aload_n 0, 0), (.getfield 41, 0), (.getfield 62, 0)] (pc' := 10) (lv' := [(0, .ref 76), (1, .int v1)]) (st' := [.int (σ.1 39 12), .int v1]) (σ' := σ) (by decide +kernel) rfl rfl rfl ?_
  refine fhW.i_ge hΓ (tgt := 38) (show fhbk _ _ (.if_icmp .ge (28)) _ = true by decide +kernel) (fun hc => ?_) (fun hc => ?_)
  · rw [if_pos hc] at h
    refine fhW.blk fhPF fhLL hΓ [(.iconst 0, 0), (.istore_n 1, 0)] (pc' := 40) (lv' := [(1, .int (0 : Int32)), (0, .ref 76)]) (st' := []) (σ' := σ) (by decide +kernel) rfl rfl rfl ?_
    refine fhW.sub (lv' := [(0, .ref 76), (1, .int (0 : Int32))]) [1, 0] rfl ?_
    obtain ⟨z1, hz, e1⟩ := Option.map_eq_some_iff.mp h
    clear h
    subst e1
    have h := hz
    have hk : (fun o => fhRet Γ none o) z1 := hk
    exact fhlp_ok (W := (fun x => fhW fhYF Γ 40 [(0, .ref 76), (1, .int x.1)] [] x.2)) (B := (fun o => fhRet Γ none o)) (fun x o h hk => L_X1_start_40 hE hΓ hd x.1 x.2 o h hk) ((0 : Int32), σ) _ h hk
  · rw [if_neg hc] at h
    refine fhW.blk fhPF fhLL hΓ [(.aload_n 0, 0), (.getfield 14, 0), (.iload_n 1, 0), (.aload_n 0, 0), (.getfield 41, 0), (.getfield 67, 0), (.iload_n 1, 0)] (pc' := 26) (lv' := [(0, .ref 76), (1, .int v1)]) (st' := [.int v1, .ref 54, .int v1, .ref (σ.2.2 76 1)]) (σ' := σ) (by decide +kernel) rfl rfl rfl ?_
    refine fhW.callv hΓ mvX2_get ml_1_70 (t := 54) (ci := 2) (av := [.int v1]) (rest := [.int v1, .ref (σ.2.2 76 1)]) (r := (some (.int (fcG σ 54 v1)))) (σ' := σ) (T_X2_get (E := fhEn Γ) (d := fhD Γ - 1) hE (by omega) 54 v1 rfl σ) (by omega) (by decide +kernel) rfl rfl rfl (Nat.le_of_ble_eq_true rfl) rfl ?_
    show fhW fhYF Γ 29 [(0, .ref 76), (1, .int v1)] [.int (fcG σ 54 v1), .int v1, .ref (σ.2.2 76 1)] σ
    obtain ⟨hy2, h⟩ := fhif h
    refine fhW.callv hΓ mvX2_put ml_1_74 (t := (σ.2.2 76 1)) (ci := 2) (av := [.int v1, .int (fcG σ 54 v1)]) (rest := []) (r := none) (σ' := (fcP σ (σ.2.2 76 1) v1 (fcG σ 54 v1))) (T_X2_put (E := fhEn Γ) (d := fhD Γ - 1) hE (by omega) (σ.2.2 76 1) v1 (fcG σ 54 v1) hy2 σ) (by omega) (by decide +kernel) rfl (fhiC_g hy2) rfl (Nat.le_of_ble_eq_true rfl) rfl ?_
    show fhW fhYF Γ 32 [(0, .ref 76), (1, .int v1)] [] (fcP σ (σ.2.2 76 1) v1 (fcG σ 54 v1))
    refine fhW.blk fhPF fhLL hΓ [(.iinc 1 1, 1)] (pc' := 35) (lv' := [(1, .int (v1 + (1 : Int32))), (0, .ref 76)]) (st' := []) (σ' := (fcP σ (σ.2.2 76 1) v1 (fcG σ 54 v1))) (by decide +kernel) rfl rfl rfl ?_
    refine fhW.goto hΓ (off := (-33)) (tgt := 2) (by decide +kernel) ?_
    refine fhW.sub (lv' := [(0, .ref 76), (1, .int (v1 + (1 : Int32)))]) [1, 0] rfl ?_
    have e9 := Option.some.inj h
    subst e9
    exact hk
set_option maxRecDepth 100000 in
set_option maxHeartbeats 4000000 in
theorem L_X1_start_E {Γ : fhX} (hE : fhEok fhYF (fhEn Γ)) (hΓ : fhOk fhYF 1 cX1_start 2 none Γ) (hd : 1 ≤ fhD Γ)   (σ : fhM) (o : fhM) (h : f_X1_start σ = some o) (hk : (fun o => fhRet Γ none o) o) : fhW fhYF Γ 0 [(0, .ref 76)] [] σ := by
  unfold f_X1_start at h
  refine fhW.blk fhPF fhLL hΓ [(.iconst 0, 0), (.istore_n 1, 0)] (pc' := 2) (lv' := [(1, .int (0 : Int32)), (0, .ref 76)]) (st' := []) (σ' := σ) (by decide +kernel) rfl rfl rfl ?_
  refine fhW.sub (lv' := [(0, .ref 76), (1, .int (0 : Int32))]) [1, 0] rfl ?_
  exact fhlp_ok (W := (fun x => fhW fhYF Γ 2 [(0, .ref 76), (1, .int x.1)] [] x.2)) (B := (fun o => fhRet Γ none o)) (fun x o h hk => L_X1_start_2 hE hΓ hd x.1 x.2 o h hk) ((0 : Int32), σ) _ h hk
set_option maxRecDepth 100000 in
theorem T_X1_start {E : fhE} {d : Nat} (hE : fhEok fhYF E) (hd : 1 ≤ d)   (σ : fhM) {o : fhM} (h : f_X1_start σ = some o) : fhC fhYF E d miX1_start [.ref 76] σ none o := by
  refine fhC.of (y := yX1_start) (cc := cX1_start) (nL := 2) (ret := none) 1 rfl (by decide +kernel) (Nat.le_of_ble_eq_true rfl) ?_
  intro Γ hΓ hR hD hEn
  subst hD; subst hEn
  exact L_X1_start_E hE hΓ hd   σ _ h hR

