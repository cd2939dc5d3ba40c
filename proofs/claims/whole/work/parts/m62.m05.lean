set_option maxRecDepth 100000 in
set_option maxHeartbeats 4000000 in
theorem L_X12_knewAt_E {Γ : fhX} (hΓ : fhOk fhYM 12 cX12_knewAt 4 (some .boolean) Γ) (hd : 0 ≤ fhD Γ) (v1 : Int32) (v2 : Int32) (v3 : Int32)  (σ : fhM) (o : Bool) (h : f_X12_knewAt v1 v2 v3 σ = some o) (hk : (fun o => fhRet Γ (some (.int (fhb o))) σ) o) : fhW fhYM Γ 0 [(0, .ref 0), (1, .int v1), (2, .int v2), (3, .int v3)] [] σ := by
  unfold f_X12_knewAt at h
  obtain ⟨hg1, h⟩ := fhif h
  refine fhW.blk fhPM fhLL hΓ [(.aload_n 0, 0), (.getfield 134, 0), (.sipush 1024, 1024), (.iload_n 1, 0), (.imul, 0), (.iload_n 2, 0), (.iadd, 0), (.iaload, 0), (.iload_n 3, 0), (.ishr, 0), (.iconst 1, 1), (.iand, 0), (.iconst 1, 1)] (pc' := 17) (lv' := [(0, .ref 0), (1, .int v1), (2, .int v2), (3, .int v3)]) (st' := [.int (1 : Int32), .int (((σ.1 40 (fhix (((1024 : Int32) * v1) + v2))) >>> (v3 &&& 31)) &&& (1 : Int32))]) (σ' := σ) (by decide +kernel) rfl rfl hg1 ?_
  refine fhW.i_ne hΓ (tgt := 24) (show fhbk _ _ (.if_icmp .ne (7)) _ = true by decide +kernel) (fun hc => ?_) (fun hc => ?_)
  · rw [if_neg hc] at h
    refine fhW.blk fhPM fhLL hΓ [(.iconst 0, 0)] (pc' := 25) (lv' := [(0, .ref 0), (1, .int v1), (2, .int v2), (3, .int v3)]) (st' := [.int (0 : Int32)]) (σ' := σ) (by decide +kernel) rfl rfl rfl ?_
    have e9 := Option.some.inj h
    subst e9
    exact fhW.zret (v := false) hΓ (by decide +kernel) hk
  · rw [if_pos hc] at h
    refine fhW.blk fhPM fhLL hΓ [(.iconst 1, 1)] (pc' := 21) (lv' := [(0, .ref 0), (1, .int v1), (2, .int v2), (3, .int v3)]) (st' := [.int (1 : Int32)]) (σ' := σ) (by decide +kernel) rfl rfl rfl ?_
    refine fhW.goto hΓ (off := 4) (tgt := 25) (by decide +kernel) ?_
    have e9 := Option.some.inj h
    subst e9
    exact fhW.zret (v := true) hΓ (by decide +kernel) hk
set_option maxRecDepth 100000 in
theorem T_X12_knewAt {E : fhE} {d : Nat} (hd : 0 ≤ d) (v1 : Int32) (v2 : Int32) (v3 : Int32)  (σ : fhM) {o : Bool} (h : f_X12_knewAt v1 v2 v3 σ = some o) : fhC fhYM E d miX12_knewAt [.ref 0, .int v1, .int v2, .int v3] σ (some (.int (fhb o))) σ := by
  refine fhC.of (y := yX12_knewAt) (cc := cX12_knewAt) (nL := 4) (ret := (some .boolean)) 12 rfl (by decide +kernel) (Nat.le_of_ble_eq_true rfl) ?_
  intro Γ hΓ hR hD hEn
  subst hD; subst hEn
  exact L_X12_knewAt_E hΓ hd v1 v2 v3  σ _ h hR
set_option maxRecDepth 100000 in
set_option maxHeartbeats 4000000 in
theorem L_X12_slowest_101 {Γ : fhX} (hΓ : fhOk fhYM 12 cX12_slowest 7 (some .int) Γ) (hd : 2 ≤ fhD Γ) (v1 : Int32) (v2 : Int32) (v3 : Int32) (v4 : Int32) (v5 : Int32)  (σ : fhM) (o : (Int32 × Int32 × Int32) ⊕ (Int32)) (h : f_X12_slowest_101 v1 v2 v3 v4 v5 σ = some o) (hk : (fhK (fun x => fhW fhYM Γ 29 [(0, .ref 0), (1, .int v1), (2, .int v2), (3, .int x.1), (4, .int x.2.1), (5, .int x.2.2)] [] σ) (fun o => fhRet Γ (some (.int o)) σ)) o) : fhW fhYM Γ 101 [(0, .ref 0), (1, .int v1), (2, .int v2), (3, .int v3), (4, .int v4), (5, .int v5)] [] σ := by
  unfold f_X12_slowest_101 at h
  refine fhW.blk fhPM fhLL hΓ [(.iinc 5 1, 1)] (pc' := 104) (lv' := [(5, .int (v5 + (1 : Int32))), (0, .ref 0), (1, .int v1), (2, .int v2), (3, .int v3), (4, .int v4)]) (st' := []) (σ' := σ) (by decide +kernel) rfl rfl rfl ?_
  refine fhW.goto hΓ (off := (-75)) (tgt := 29) (by decide +kernel) ?_
  refine fhW.sub (lv' := [(0, .ref 0), (1, .int v1), (2, .int v2), (3, .int v3), (4, .int v4), (5, .int (v5 + (1 : Int32)))]) [1, 2, 3, 4, 5, 0] rfl ?_
  have e9 := Option.some.inj h
  subst e9
  exact hk
set_option maxRecDepth 100000 in
set_option maxHeartbeats 4000000 in
theorem L_X12_slowest_66 {Γ : fhX} (hΓ : fhOk fhYM 12 cX12_slowest 7 (some .int) Γ) (hd : 2 ≤ fhD Γ) (v1 : Int32) (v2 : Int32) (v3 : Int32) (v4 : Int32) (v5 : Int32) (v6 : Int32)  (σ : fhM) (o : (Int32) ⊕ ((Int32 × Int32 × Int32) ⊕ (Int32))) (h : f_X12_slowest_66 v1 v2 v3 v4 v5 v6 σ = some o) (hk : (fhK (fun x => fhW fhYM Γ 66 [(0, .ref 0), (1, .int v1), (2, .int v2), (3, .int v3), (4, .int v4), (5, .int v5), (6, .int x)] [] σ) (fhK (fun x => fhW fhYM Γ 29 [(0, .ref 0), (1, .int v1), (2, .int v2), (3, .int x.1), (4, .int x.2.1), (5, .int x.2.2)] [] σ) (fun o => fhRet Γ (some (.int o)) σ))) o) : fhW fhYM Γ 66 [(0, .ref 0), (1, .int v1), (2, .int v2), (3, .int v3), (4, .int v4), (5, .int v5), (6, .int v6)] [] σ := by
  unfold f_X12_slowest_66 at h
  refine fhW.blk fhPM fhLL hΓ [(.aload_n 0, 0), (.iload 6, 0), (.iload 5, 0), (.iload_n 1, 0)] (pc' := 72) (lv' := [(0, .ref 0), (1, .int v1), (2, .int v2), (3, .int v3), (4, .int v4), (5, .int v5), (6, .int v6)]) (st' := [.int v1, .int v5, .int v6, .ref 0]) (σ' := σ) (by decide +kernel) rfl rfl rfl ?_
  obtain ⟨q2, hb1, h⟩ := Option.bind_eq_some_iff.mp h
  refine fhW.callv hΓ mvX12_knewAt ml_12_548 (t := 0) (ci := 12) (av := [.int v6, .int v5, .int v1]) (rest := []) (r := (some (.int (fhb q2)))) (σ' := σ) (T_X12_knewAt (E := fhEn Γ) (d := fhD Γ - 1) (by omega) v6 v5 v1 σ hb1) (by omega) (by decide +kernel) rfl rfl rfl (Nat.le_of_ble_eq_true rfl) rfl ?_
  show fhW fhYM Γ 75 [(0, .ref 0), (1, .int v1), (2, .int v2), (3, .int v3), (4, .int v4), (5, .int v5), (6, .int v6)] [.int (fhb q2)] σ
  refine fhW.b_ne hΓ (tgt := 84) (show fhbk _ _ (.ifCond .ne (9)) _ = true by decide +kernel) (fun hc => ?_) (fun hc => ?_)
  · rw [if_pos hc] at h
    refine fhW.blk fhPM fhLL hΓ [(.iload 6, 0), (.iload 4, 0)] (pc' := 88) (lv' := [(0, .ref 0), (1, .int v1), (2, .int v2), (3, .int v3), (4, .int v4), (5, .int v5), (6, .int v6)]) (st' := [.int v4, .int v6]) (σ' := σ) (by decide +kernel) rfl rfl rfl ?_
    refine fhW.i_gt hΓ (tgt := 94) (show fhbk _ _ (.if_icmp .gt (6)) _ = true by decide +kernel) (fun hc => ?_) (fun hc => ?_)
    · simp only [if_pos hc] at h
      refine fhW.blk fhPM fhLL hΓ [(.iload 5, 0), (.istore_n 3, 0), (.iload 6, 0), (.istore 4, 0)] (pc' := 101) (lv' := [(4, .int v6), (3, .int v5), (0, .ref 0), (1, .int v1), (2, .int v2), (5, .int v5), (6, .int v6)]) (st' := []) (σ' := σ) (by decide +kernel) rfl rfl rfl ?_
      refine fhW.sub (lv' := [(0, .ref 0), (1, .int v1), (2, .int v2), (3, .int v5), (4, .int v6), (5, .int v5)]) [2, 3, 4, 1, 0, 5] rfl ?_
      obtain ⟨z1, hz, e1⟩ := Option.map_eq_some_iff.mp h
      clear h
      subst e1
      have h := hz
      have hk : (fhK (fun x => fhW fhYM Γ 29 [(0, .ref 0), (1, .int v1), (2, .int v2), (3, .int x.1), (4, .int x.2.1), (5, .int x.2.2)] [] σ) (fun o => fhRet Γ (some (.int o)) σ)) z1 := hk
      exact L_X12_slowest_101 hΓ hd v1 v2 v5 v6 v5 σ _ h hk
    · simp only [if_neg hc] at h
      refine fhW.goto hΓ (off := 10) (tgt := 101) (by decide +kernel) ?_
      refine fhW.sub (lv' := [(0, .ref 0), (1, .int v1), (2, .int v2), (3, .int v3), (4, .int v4), (5, .int v5)]) [0, 1, 2, 3, 4, 5] rfl ?_
      obtain ⟨z2, hz, e2⟩ := Option.map_eq_some_iff.mp h
      clear h
      subst e2
      have h := hz
      have hk : (fhK (fun x => fhW fhYM Γ 29 [(0, .ref 0), (1, .int v1), (2, .int v2), (3, .int x.1), (4, .int x.2.1), (5, .int x.2.2)] [] σ) (fun o => fhRet Γ (some (.int o)) σ)) z2 := hk
      exact L_X12_slowest_101 hΓ hd v1 v2 v3 v4 v5 σ _ h hk
  · rw [if_neg hc] at h
    refine fhW.blk fhPM fhLL hΓ [(.iinc 6 1, 1)] (pc' := 81) (lv' := [(6, .int (v6 + (1 : Int32))), (0, .ref 0), (1, .int v1), (2, .int v2), (3, .int v3), (4, .int v4), (5, .int v5)]) (st' := []) (σ' := σ) (by decide +kernel) rfl rfl rfl ?_
    refine fhW.goto hΓ (off := (-15)) (tgt := 66) (by decide +kernel) ?_
    refine fhW.sub (lv' := [(0, .ref 0), (1, .int v1), (2, .int v2), (3, .int v3), (4, .int v4), (5, .int v5), (6, .int (v6 + (1 : Int32)))]) [1, 2, 3, 4, 5, 6, 0] rfl ?_
    have e9 := Option.some.inj h
    subst e9
    exact hk
set_option maxRecDepth 100000 in
set_option maxHeartbeats 4000000 in
theorem L_X12_slowest_29 {Γ : fhX} (hΓ : fhOk fhYM 12 cX12_slowest 7 (some .int) Γ) (hd : 2 ≤ fhD Γ) (v1 : Int32) (v2 : Int32) (v3 : Int32) (v4 : Int32) (v5 : Int32)  (σ : fhM) (o : (Int32 × Int32 × Int32) ⊕ (Int32)) (h : f_X12_slowest_29 v1 v2 v3 v4 v5 σ = some o) (hk : (fhK (fun x => fhW fhYM Γ 29 [(0, .ref 0), (1, .int v1), (2, .int v2), (3, .int x.1), (4, .int x.2.1), (5, .int x.2.2)] [] σ) (fun o => fhRet Γ (some (.int o)) σ)) o) : fhW fhYM Γ 29 [(0, .ref 0), (1, .int v1), (2, .int v2), (3, .int v3), (4, .int v4), (5, .int v5)] [] σ := by
  unfold f_X12_slowest_29 at h
  refine fhW.blk fhPM fhLL hΓ [(.iload 5, 0), (.aload_n 0, 0), (.getfield 432, 0)] (pc' := 35) (lv' := [(0, .ref 0), (1, .int v1), (2, .int v2), (3, .int v3), (4, .int v4), (5, .int v5)]) (st' := [.int (σ.1 0 52), .int v5]) (σ' := σ) (by decide +kernel) rfl rfl rfl ?_
  refine fhW.i_ge hΓ (tgt := 107) (show fhbk _ _ (.if_icmp .ge (72)) _ = true by decide +kernel) (fun hc => ?_) (fun hc => ?_)
  · rw [if_pos hc] at h
    refine fhW.blk fhPM fhLL hΓ [(.iload_n 2, 0)] (pc' := 108) (lv' := [(0, .ref 0), (1, .int v1), (2, .int v2), (3, .int v3), (4, .int v4), (5, .int v5)]) (st' := [.int v2]) (σ' := σ) (by decide +kernel) rfl rfl rfl ?_
    refine fhW.z_ne hΓ (tgt := 115) (show fhbk _ _ (.ifCond .ne (7)) _ = true by decide +kernel) (fun hc => ?_) (fun hc => ?_)
    · rw [if_neg hc] at h
      refine fhW.blk fhPM fhLL hΓ [(.iload 4, 0)] (pc' := 117) (lv' := [(0, .ref 0), (1, .int v1), (2, .int v2), (3, .int v3), (4, .int v4), (5, .int v5)]) (st' := [.int v4]) (σ' := σ) (by decide +kernel) rfl rfl rfl ?_
      have e9 := Option.some.inj h
      subst e9
      exact fhW.iret hΓ (by decide +kernel) hk
    · rw [if_pos hc] at h
      refine fhW.blk fhPM fhLL hΓ [(.iload_n 3, 0)] (pc' := 112) (lv' := [(0, .ref 0), (1, .int v1), (2, .int v2), (3, .int v3), (4, .int v4), (5, .int v5)]) (st' := [.int v3]) (σ' := σ) (by decide +kernel) rfl rfl rfl ?_
      refine fhW.goto hΓ (off := 5) (tgt := 117) (by decide +kernel) ?_
      have e9 := Option.some.inj h
      subst e9
      exact fhW.iret hΓ (by decide +kernel) hk
  · rw [if_neg hc] at h
    obtain ⟨hg1, h⟩ := fhif h
    refine fhW.blk fhPM fhLL hΓ [(.aload_n 0, 0), (.getfield 124, 0), (.iload 5, 0), (.baload, 0)] (pc' := 45) (lv' := [(0, .ref 0), (1, .int v1), (2, .int v2), (3, .int v3), (4, .int v4), (5, .int v5)]) (st' := [.int (σ.1 37 (fhix v5))]) (σ' := σ) (by decide +kernel) rfl rfl hg1 ?_
    refine fhW.z_eq hΓ (tgt := 101) (show fhbk _ _ (.ifCond .eq (56)) _ = true by decide +kernel) (fun hc => ?_) (fun hc => ?_)
    · rw [if_pos hc] at h
      refine fhW.sub (lv' := [(0, .ref 0), (1, .int v1), (2, .int v2), (3, .int v3), (4, .int v4), (5, .int v5)]) [0, 1, 2, 3, 4, 5] rfl ?_
      exact L_X12_slowest_101 hΓ hd v1 v2 v3 v4 v5 σ _ h hk
    · rw [if_neg hc] at h
      refine fhW.blk fhPM fhLL hΓ [(.aload_n 0, 0), (.bipush 20, 20), (.iload 5, 0), (.iload_n 1, 0)] (pc' := 54) (lv' := [(0, .ref 0), (1, .int v1), (2, .int v2), (3, .int v3), (4, .int v4), (5, .int v5)]) (st' := [.int v1, .int v5, .int (20 : Int32), .ref 0]) (σ' := σ) (by decide +kernel) rfl rfl rfl ?_
      obtain ⟨q1, hb2, h⟩ := Option.bind_eq_some_iff.mp h
      refine fhW.callv hΓ mvX12_knewAt ml_12_548 (t := 0) (ci := 12) (av := [.int (20 : Int32), .int v5, .int v1]) (rest := []) (r := (some (.int (fhb q1)))) (σ' := σ) (T_X12_knewAt (E := fhEn Γ) (d := fhD Γ - 1) (by omega) (20 : Int32) v5 v1 σ hb2) (by omega) (by decide +kernel) rfl rfl rfl (Nat.le_of_ble_eq_true rfl) rfl ?_
      show fhW fhYM Γ 57 [(0, .ref 0), (1, .int v1), (2, .int v2), (3, .int v3), (4, .int v4), (5, .int v5)] [.int (fhb q1)] σ
      refine fhW.b_ne hΓ (tgt := 63) (show fhbk _ _ (.ifCond .ne (6)) _ = true by decide +kernel) (fun hc => ?_) (fun hc => ?_)
      · rw [if_pos hc] at h
        refine fhW.blk fhPM fhLL hΓ [(.iconst 0, 0), (.istore 6, 0)] (pc' := 66) (lv' := [(6, .int (0 : Int32)), (0, .ref 0), (1, .int v1), (2, .int v2), (3, .int v3), (4, .int v4), (5, .int v5)]) (st' := []) (σ' := σ) (by decide +kernel) rfl rfl rfl ?_
        refine fhW.sub (lv' := [(0, .ref 0), (1, .int v1), (2, .int v2), (3, .int v3), (4, .int v4), (5, .int v5), (6, .int (0 : Int32))]) [1, 2, 3, 4, 5, 6, 0] rfl ?_
        exact fhlp_ok (W := (fun x => fhW fhYM Γ 66 [(0, .ref 0), (1, .int v1), (2, .int v2), (3, .int v3), (4, .int v4), (5, .int v5), (6, .int x)] [] σ)) (B := (fhK (fun x => fhW fhYM Γ 29 [(0, .ref 0), (1, .int v1), (2, .int v2), (3, .int x.1), (4, .int x.2.1), (5, .int x.2.2)] [] σ) (fun o => fhRet Γ (some (.int o)) σ))) (fun x o h hk => L_X12_slowest_66 hΓ hd v1 v2 v3 v4 v5 x σ o h hk) (0 : Int32) _ h hk
      · rw [if_neg hc] at h
        refine fhW.goto hΓ (off := 41) (tgt := 101) (by decide +kernel) ?_
        refine fhW.sub (lv' := [(0, .ref 0), (1, .int v1), (2, .int v2), (3, .int v3), (4, .int v4), (5, .int v5)]) [0, 1, 2, 3, 4, 5] rfl ?_
        exact L_X12_slowest_101 hΓ hd v1 v2 v3 v4 v5 σ _ h hk
set_option maxRecDepth 100000 in
set_option maxHeartbeats 4000000 in
theorem L_X12_slowest_E {Γ : fhX} (hΓ : fhOk fhYM 12 cX12_slowest 7 (some .int) Γ) (hd : 2 ≤ fhD Γ) (v1 : Int32) (v2 : Int32)  (σ : fhM) (o : Int32) (h : f_X12_slowest v1 v2 σ = some o) (hk : (fun o => fhRet Γ (some (.int o)) σ) o) : fhW fhYM Γ 0 [(0, .ref 0), (1, .int v1), (2, .int v2)] [] σ := by
  unfold f_X12_slowest at h
  refine fhW.blk fhPM fhLL hΓ [(.aload_n 0, 0), (.iload_n 1, 0), (.i2l, 0)] (pc' := 3) (lv' := [(0, .ref 0), (1, .int v1), (2, .int v2)]) (st' := [.long (Int32.toInt64 v1), .ref 0]) (σ' := σ) (by decide +kernel) rfl rfl rfl ?_
  refine fhW.callv hΓ mvX12_isGuest ml_12_505 (t := 0) (ci := 12) (av := [.long (Int32.toInt64 v1)]) (rest := []) (r := (some (.int (fhb (f_X12_isGuest (Int32.toInt64 v1) σ))))) (σ' := σ) (T_X12_isGuest (E := fhEn Γ) (d := fhD Γ - 1) (by omega) (Int32.toInt64 v1) σ) (by omega) (by decide +kernel) rfl rfl rfl (Nat.le_of_ble_eq_true rfl) rfl ?_
  show fhW fhYM Γ 6 [(0, .ref 0), (1, .int v1), (2, .int v2)] [.int (fhb (f_X12_isGuest (Int32.toInt64 v1) σ))] σ
  refine fhW.b_eq hΓ (tgt := 19) (show fhbk _ _ (.ifCond .eq (13)) _ = true by decide +kernel) (fun hc => ?_) (fun hc => ?_)
  · rw [if_neg hc] at h
    refine fhW.blk fhPM fhLL hΓ [(.iconst (-1), -1)] (pc' := 20) (lv' := [(0, .ref 0), (1, .int v1), (2, .int v2)]) (st' := [.int (-1 : Int32)]) (σ' := σ) (by decide +kernel) rfl rfl rfl ?_
    have e9 := Option.some.inj h
    subst e9
    exact fhW.iret hΓ (by decide +kernel) hk
  · rw [if_pos hc] at h
    refine fhW.blk fhPM fhLL hΓ [(.iload_n 2, 0), (.i2l, 0), (.lconst 0, 0), (.lconst 1, 0)] (pc' := 13) (lv' := [(0, .ref 0), (1, .int v1), (2, .int v2)]) (st' := [.long (1 : Int64), .long (0 : Int64), .long (Int32.toInt64 v2)]) (σ' := σ) (by decide +kernel) rfl rfl rfl ?_
    refine fhW.calls hΓ msX12_isIn ml_12_305 (av := [.long (Int32.toInt64 v2), .long (0 : Int64), .long (1 : Int64)]) (rest := []) (r := (some (.int (fhb (f_X12_isIn (Int32.toInt64 v2) (0 : Int64) (1 : Int64) σ))))) (σ' := σ) (T_X12_isIn (E := fhEn Γ) (d := fhD Γ - 1) (by omega) (Int32.toInt64 v2) (0 : Int64) (1 : Int64) σ) (by omega) (by decide +kernel) rfl (Nat.le_of_ble_eq_true rfl) rfl ?_
    show fhW fhYM Γ 16 [(0, .ref 0), (1, .int v1), (2, .int v2)] [.int (fhb (f_X12_isIn (Int32.toInt64 v2) (0 : Int64) (1 : Int64) σ))] σ
    refine fhW.b_ne hΓ (tgt := 21) (show fhbk _ _ (.ifCond .ne (5)) _ = true by decide +kernel) (fun hc => ?_) (fun hc => ?_)
    · rw [if_pos hc] at h
      refine fhW.blk fhPM fhLL hΓ [(.iconst (-1), -1), (.istore_n 3, 0), (.iconst (-1), -1), (.istore 4, 0), (.iconst 0, 0), (.istore 5, 0)] (pc' := 29) (lv' := [(5, .int (0 : Int32)), (4, .int (-1 : Int32)), (3, .int (-1 : Int32)), (0, .ref 0), (1, .int v1), (2, .int v2)]) (st' := []) (σ' := σ) (by decide +kernel) rfl rfl rfl ?_
      refine fhW.sub (lv' := [(0, .ref 0), (1, .int v1), (2, .int v2), (3, .int (-1 : Int32)), (4, .int (-1 : Int32)), (5, .int (0 : Int32))]) [3, 4, 5, 2, 1, 0] rfl ?_
      exact fhlp_ok (W := (fun x => fhW fhYM Γ 29 [(0, .ref 0), (1, .int v1), (2, .int v2), (3, .int x.1), (4, .int x.2.1), (5, .int x.2.2)] [] σ)) (B := (fun o => fhRet Γ (some (.int o)) σ)) (fun x o h hk => L_X12_slowest_29 hΓ hd v1 v2 x.1 x.2.1 x.2.2 σ o h hk) ((-1 : Int32), (-1 : Int32), (0 : Int32)) _ h hk
    · rw [if_neg hc] at h
      refine fhW.blk fhPM fhLL hΓ [(.iconst (-1), -1)] (pc' := 20) (lv' := [(0, .ref 0), (1, .int v1), (2, .int v2)]) (st' := [.int (-1 : Int32)]) (σ' := σ) (by decide +kernel) rfl rfl rfl ?_
      have e9 := Option.some.inj h
      subst e9
      exact fhW.iret hΓ (by decide +kernel) hk
set_option maxRecDepth 100000 in
theorem T_X12_slowest {E : fhE} {d : Nat} (hd : 2 ≤ d) (v1 : Int32) (v2 : Int32)  (σ : fhM) {o : Int32} (h : f_X12_slowest v1 v2 σ = some o) : fhC fhYM E d miX12_slowest [.ref 0, .int v1, .int v2] σ (some (.int o)) σ := by
  refine fhC.of (y := yX12_slowest) (cc := cX12_slowest) (nL := 7) (ret := (some .int)) 12 rfl (by decide +kernel) (Nat.le_of_ble_eq_true rfl) ?_
  intro Γ hΓ hR hD hEn
  subst hD; subst hEn
  exact L_X12_slowest_E hΓ hd v1 v2  σ _ h hR
set_option maxRecDepth 100000 in
set_option maxHeartbeats 4000000 in
theorem L_X12_odds_61 {Γ : fhX} (hΓ : fhOk fhYM 12 cX12_odds 5 (some .int) Γ) (hd : 2 ≤ fhD Γ) (v1 : Int32) (v2 : Int32) (v3 : Int32) (v4 : Int32)  (σ : fhM) (o : (Int32 × Int32) ⊕ (Int32)) (h : f_X12_odds_61 v1 v2 v3 v4 σ = some o) (hk : (fhK (fun x => fhW fhYM Γ 28 [(0, .ref 0), (1, .int v1), (2, .int v2), (3, .int x.1), (4, .int x.2)] [] σ) (fun o => fhRet Γ (some (.int o)) σ)) o) : fhW fhYM Γ 61 [(0, .ref 0), (1, .int v1), (2, .int v2), (3, .int v3), (4, .int v4)] [] σ := by
  unfold f_X12_odds_61 at h
  refine fhW.blk fhPM fhLL hΓ [(.iinc 4 1, 1)] (pc' := 64) (lv' := [(4, .int (v4 + (1 : Int32))), (0, .ref 0), (1, .int v1), (2, .int v2), (3, .int v3)]) (st' := []) (σ' := σ) (by decide +kernel) rfl rfl rfl ?_
  refine fhW.goto hΓ (off := (-36)) (tgt := 28) (by decide +kernel) ?_
  refine fhW.sub (lv' := [(0, .ref 0), (1, .int v1), (2, .int v2), (3, .int v3), (4, .int (v4 + (1 : Int32)))]) [1, 2, 3, 4, 0] rfl ?_
  have e9 := Option.some.inj h
  subst e9
  exact hk
set_option maxRecDepth 100000 in
set_option maxHeartbeats 4000000 in
theorem L_X12_odds_28 {Γ : fhX} (hΓ : fhOk fhYM 12 cX12_odds 5 (some .int) Γ) (hd : 2 ≤ fhD Γ) (v1 : Int32) (v2 : Int32) (v3 : Int32) (v4 : Int32)  (σ : fhM) (o : (Int32 × Int32) ⊕ (Int32)) (h : f_X12_odds_28 v1 v2 v3 v4 σ = some o) (hk : (fhK (fun x => fhW fhYM Γ 28 [(0, .ref 0), (1, .int v1), (2, .int v2), (3, .int x.1), (4, .int x.2)] [] σ) (fun o => fhRet Γ (some (.int o)) σ)) o) : fhW fhYM Γ 28 [(0, .ref 0), (1, .int v1), (2, .int v2), (3, .int v3), (4, .int v4)] [] σ := by
  unfold f_X12_odds_28 at h
  refine fhW.blk fhPM fhLL hΓ [(.iload 4, 0), (.aload_n 0, 0), (.getfield 432, 0)] (pc' := 34) (lv' := [(0, .ref 0), (1, .int v1), (2, .int v2), (3, .int v3), (4, .int v4)]) (st' := [.int (σ.1 0 52), .int v4]) (σ' := σ) (by decide +kernel) rfl rfl rfl ?_
  refine fhW.i_ge hΓ (tgt := 67) (show fhbk _ _ (.if_icmp .ge (33)) _ = true by decide +kernel) (fun hc => ?_) (fun hc => ?_)
  · rw [if_pos hc] at h
    refine fhW.blk fhPM fhLL hΓ [(.iload_n 3, 0)] (pc' := 68) (lv' := [(0, .ref 0), (1, .int v1), (2, .int v2), (3, .int v3), (4, .int v4)]) (st' := [.int v3]) (σ' := σ) (by decide +kernel) rfl rfl rfl ?_
    have e9 := Option.some.inj h
    subst e9
    exact fhW.iret hΓ (by decide +kernel) hk
  · rw [if_neg hc] at h
    obtain ⟨hg1, h⟩ := fhif h
    refine fhW.blk fhPM fhLL hΓ [(.aload_n 0, 0), (.getfield 124, 0), (.iload 4, 0), (.baload, 0)] (pc' := 44) (lv' := [(0, .ref 0), (1, .int v1), (2, .int v2), (3, .int v3), (4, .int v4)]) (st' := [.int (σ.1 37 (fhix v4))]) (σ' := σ) (by decide +kernel) rfl rfl hg1 ?_
    refine fhW.z_eq hΓ (tgt := 61) (show fhbk _ _ (.ifCond .eq (17)) _ = true by decide +kernel) (fun hc => ?_) (fun hc => ?_)
    · rw [if_pos hc] at h
      refine fhW.sub (lv' := [(0, .ref 0), (1, .int v1), (2, .int v2), (3, .int v3), (4, .int v4)]) [0, 1, 2, 3, 4] rfl ?_
      exact L_X12_odds_61 hΓ hd v1 v2 v3 v4 σ _ h hk
    · rw [if_neg hc] at h
      refine fhW.blk fhPM fhLL hΓ [(.aload_n 0, 0), (.iload_n 2, 0), (.iload 4, 0), (.iload_n 1, 0)] (pc' := 52) (lv' := [(0, .ref 0), (1, .int v1), (2, .int v2), (3, .int v3), (4, .int v4)]) (st' := [.int v1, .int v4, .int v2, .ref 0]) (σ' := σ) (by decide +kernel) rfl rfl rfl ?_
      obtain ⟨q1, hb1, h⟩ := Option.bind_eq_some_iff.mp h
      refine fhW.callv hΓ mvX12_knewAt ml_12_548 (t := 0) (ci := 12) (av := [.int v2, .int v4, .int v1]) (rest := []) (r := (some (.int (fhb q1)))) (σ' := σ) (T_X12_knewAt (E := fhEn Γ) (d := fhD Γ - 1) (by omega) v2 v4 v1 σ hb1) (by omega) (by decide +kernel) rfl rfl rfl (Nat.le_of_ble_eq_true rfl) rfl ?_
      show fhW fhYM Γ 55 [(0, .ref 0), (1, .int v1), (2, .int v2), (3, .int v3), (4, .int v4)] [.int (fhb q1)] σ
      refine fhW.b_eq hΓ (tgt := 61) (show fhbk _ _ (.ifCond .eq (6)) _ = true by decide +kernel) (fun hc => ?_) (fun hc => ?_)
      · simp only [if_neg hc] at h
        refine fhW.sub (lv' := [(0, .ref 0), (1, .int v1), (2, .int v2), (3, .int v3), (4, .int v4)]) [0, 1, 2, 3, 4] rfl ?_
        exact L_X12_odds_61 hΓ hd v1 v2 v3 v4 σ _ h hk
      · simp only [if_pos hc] at h
        refine fhW.blk fhPM fhLL hΓ [(.iinc 3 1, 1)] (pc' := 61) (lv' := [(3, .int (v3 + (1 : Int32))), (0, .ref 0), (1, .int v1), (2, .int v2), (4, .int v4)]) (st' := []) (σ' := σ) (by decide +kernel) rfl rfl rfl ?_
        refine fhW.sub (lv' := [(0, .ref 0), (1, .int v1), (2, .int v2), (3, .int (v3 + (1 : Int32))), (4, .int v4)]) [1, 2, 3, 0, 4] rfl ?_
        exact L_X12_odds_61 hΓ hd v1 v2 (v3 + (1 : Int32)) v4 σ _ h hk
set_option maxRecDepth 100000 in
set_option maxHeartbeats 4000000 in
theorem L_X12_odds_E {Γ : fhX} (hΓ : fhOk fhYM 12 cX12_odds 5 (some .int) Γ) (hd : 2 ≤ fhD Γ) (v1 : Int32) (v2 : Int32)  (σ : fhM) (o : Int32) (h : f_X12_odds v1 v2 σ = some o) (hk : (fun o => fhRet Γ (some (.int o)) σ) o) : fhW fhYM Γ 0 [(0, .ref 0), (1, .int v1), (2, .int v2)] [] σ := by
  unfold f_X12_odds at h
  refine fhW.blk fhPM fhLL hΓ [(.aload_n 0, 0), (.iload_n 1, 0), (.i2l, 0)] (pc' := 3) (lv' := [(0, .ref 0), (1, .int v1), (2, .int v2)]) (st' := [.long (Int32.toInt64 v1), .ref 0]) (σ' := σ) (by decide +kernel) rfl rfl rfl ?_
  refine fhW.callv hΓ mvX12_isGuest ml_12_505 (t := 0) (ci := 12) (av := [.long (Int32.toInt64 v1)]) (rest := []) (r := (some (.int (fhb (f_X12_isGuest (Int32.toInt64 v1) σ))))) (σ' := σ) (T_X12_isGuest (E := fhEn Γ) (d := fhD Γ - 1) (by omega) (Int32.toInt64 v1) σ) (by omega) (by decide +kernel) rfl rfl rfl (Nat.le_of_ble_eq_true rfl) rfl ?_
  show fhW fhYM Γ 6 [(0, .ref 0), (1, .int v1), (2, .int v2)] [.int (fhb (f_X12_isGuest (Int32.toInt64 v1) σ))] σ
  refine fhW.b_eq hΓ (tgt := 21) (show fhbk _ _ (.ifCond .eq (15)) _ = true by decide +kernel) (fun hc => ?_) (fun hc => ?_)
  · rw [if_neg hc] at h
    refine fhW.blk fhPM fhLL hΓ [(.iconst (-1), -1)] (pc' := 22) (lv' := [(0, .ref 0), (1, .int v1), (2, .int v2)]) (st' := [.int (-1 : Int32)]) (σ' := σ) (by decide +kernel) rfl rfl rfl ?_
    have e9 := Option.some.inj h
    subst e9
    exact fhW.iret hΓ (by decide +kernel) hk
  · rw [if_pos hc] at h
    refine fhW.blk fhPM fhLL hΓ [(.iload_n 2, 0), (.i2l, 0), (.lconst 0, 0), (.ldc2_w 528, 0)] (pc' := 15) (lv' := [(0, .ref 0), (1, .int v1), (2, .int v2)]) (st' := [.long (20 : Int64), .long (0 : Int64), .long (Int32.toInt64 v2)]) (σ' := σ) (by decide +kernel) rfl rfl rfl ?_
    refine fhW.calls hΓ msX12_isIn ml_12_305 (av := [.long (Int32.toInt64 v2), .long (0 : Int64), .long (20 : Int64)]) (rest := []) (r := (some (.int (fhb (f_X12_isIn (Int32.toInt64 v2) (0 : Int64) (20 : Int64) σ))))) (σ' := σ) (T_X12_isIn (E := fhEn Γ) (d := fhD Γ - 1) (by omega) (Int32.toInt64 v2) (0 : Int64) (20 : Int64) σ) (by omega) (by decide +kernel) rfl (Nat.le_of_ble_eq_true rfl) rfl ?_
    show fhW fhYM Γ 18 [(0, .ref 0), (1, .int v1), (2, .int v2)] [.int (fhb (f_X12_isIn (Int32.toInt64 v2) (0 : Int64) (20 : Int64) σ))] σ
    refine fhW.b_ne hΓ (tgt := 23) (show fhbk _ _ (.ifCond .ne (5)) _ = true by decide +kernel) (fun hc => ?_) (fun hc => ?_)
    · rw [if_pos hc] at h
      refine fhW.blk fhPM fhLL hΓ [(.iconst 0, 0), (.istore_n 3, 0), (.iconst 0, 0), (.istore 4, 0)] (pc' := 28) (lv' := [(4, .int (0 : Int32)), (3, .int (0 : Int32)), (0, .ref 0), (1, .int v1), (2, .int v2)]) (st' := []) (σ' := σ) (by decide +kernel) rfl rfl rfl ?_
      refine fhW.sub (lv' := [(0, .ref 0), (1, .int v1), (2, .int v2), (3, .int (0 : Int32)), (4, .int (0 : Int32))]) [2, 3, 4, 1, 0] rfl ?_
      exact fhlp_ok (W := (fun x => fhW fhYM Γ 28 [(0, .ref 0), (1, .int v1), (2, .int v2), (3, .int x.1), (4, .int x.2)] [] σ)) (B := (fun o => fhRet Γ (some (.int o)) σ)) (fun x o h hk => L_X12_odds_28 hΓ hd v1 v2 x.1 x.2 σ o h hk) ((0 : Int32), (0 : Int32)) _ h hk
    · rw [if_neg hc] at h
      refine fhW.blk fhPM fhLL hΓ [(.iconst (-1), -1)] (pc' := 22) (lv' := [(0, .ref 0), (1, .int v1), (2, .int v2)]) (st' := [.int (-1 : Int32)]) (σ' := σ) (by decide +kernel) rfl rfl rfl ?_
      have e9 := Option.some.inj h
      subst e9
      exact fhW.iret hΓ (by decide +kernel) hk
set_option maxRecDepth 100000 in
theorem T_X12_odds {E : fhE} {d : Nat} (hd : 2 ≤ d) (v1 : Int32) (v2 : Int32)  (σ : fhM) {o : Int32} (h : f_X12_odds v1 v2 σ = some o) : fhC fhYM E d miX12_odds [.ref 0, .int v1, .int v2] σ (some (.int o)) σ := by
  refine fhC.of (y := yX12_odds) (cc := cX12_odds) (nL := 5) (ret := (some .int)) 12 rfl (by decide +kernel) (Nat.le_of_ble_eq_true rfl) ?_
  intro Γ hΓ hR hD hEn
  subst hD; subst hEn
  exact L_X12_odds_E hΓ hd v1 v2  σ _ h hR
set_option maxRecDepth 100000 in
set_option maxHeartbeats 4000000 in
theorem L_X12_hear_108 {Γ : fhX} (hΓ : fhOk fhYM 12 cX12_hear 4 (some .int) Γ) (hd : 2 ≤ fhD Γ) (v1 : Int32) (v3 : Int32)  (σ : fhM) (o : (Int32 × fhM) ⊕ (Int32 × fhM)) (h : f_X12_hear_108 v1 v3 σ = some o) (hk : (fhK (fun x => fhW fhYM Γ 108 [(0, .ref 0), (1, .int v1), (3, .int x.1)] [] x.2) (fun o => fhRet Γ (some (.int o.1)) o.2)) o) : fhW fhYM Γ 108 [(0, .ref 0), (1, .int v1), (3, .int v3)] [] σ := by
  unfold f_X12_hear_108 at h
  refine fhW.blk fhPM fhLL hΓ [(.iload_n 3, 0), (.iload_n 1, 0)] (pc' := 110) (lv' := [(0, .ref 0), (1, .int v1), (3, .int v3)]) (st' := [.int v1, .int v3]) (σ' := σ) (by decide +kernel) rfl rfl rfl ?_
  refine fhW.i_ge hΓ (tgt := 131) (show fhbk _ _ (.if_icmp .ge (21)) _ = true by decide +kernel) (fun hc => ?_) (fun hc => ?_)
  · rw [if_pos hc] at h
    refine fhW.blk fhPM fhLL hΓ [(.aload_n 0, 0), (.iload_n 1, 0), (.iconst 3, 3), (.idiv, 0), (.putfield 457, 0), (.aload_n 0, 0), (.getfield 457, 0)] (pc' := 142) (lv' := [(0, .ref 0), (1, .int v1), (3, .int v3)]) (st' := [.int (v1 / (3 : Int32))]) (σ' := (fhI σ 0 68 (v1 / (3 : Int32)))) (by decide +kernel) rfl rfl rfl ?_
    have e9 := Option.some.inj h
    subst e9
    exact fhW.iret hΓ (by decide +kernel) hk
  · rw [if_neg hc] at h
    obtain ⟨hg1, h⟩ := fhif h
    refine fhW.blk fhPM fhLL hΓ [(.aload_n 0, 0), (.getfield 165, 0), (.iload_n 3, 0), (.aload_n 0, 0), (.getfield 7, 0), (.iload_n 3, 0), (.iaload, 0), (.iastore, 0), (.iinc 3 1, 1)] (pc' := 128) (lv' := [(3, .int (v3 + (1 : Int32))), (0, .ref 0), (1, .int v1)]) (st' := []) (σ' := (fhI σ 50 (fhix v3) (σ.1 1 (fhix v3)))) (by decide +kernel) rfl rfl hg1 ?_
    refine fhW.goto hΓ (off := (-20)) (tgt := 108) (by decide +kernel) ?_
    refine fhW.sub (lv' := [(0, .ref 0), (1, .int v1), (3, .int (v3 + (1 : Int32)))]) [1, 2, 0] rfl ?_
    have e9 := Option.some.inj h
    subst e9
    exact hk
set_option maxRecDepth 100000 in
set_option maxHeartbeats 4000000 in
theorem L_X12_hear_96 {Γ : fhX} (hΓ : fhOk fhYM 12 cX12_hear 4 (some .int) Γ) (hd : 2 ≤ fhD Γ) (v1 : Int32) (v2 : Int32)  (σ : fhM) (o : Int32 × fhM) (h : f_X12_hear_96 v1 v2 σ = some o) (hk : (fun o => fhRet Γ (some (.int o.1)) o.2) o) : fhW fhYM Γ 96 [(0, .ref 0), (1, .int v1), (2, .int v2)] [] σ := by
  unfold f_X12_hear_96 at h
  refine fhW.blk fhPM fhLL hΓ [(.iload_n 2, 0)] (pc' := 97) (lv' := [(0, .ref 0), (1, .int v1), (2, .int v2)]) (st' := [.int v2]) (σ' := σ) (by decide +kernel) rfl rfl rfl ?_
  refine fhW.z_ne hΓ (tgt := 106) (show fhbk _ _ (.ifCond .ne (9)) _ = true by decide +kernel) (fun hc => ?_) (fun hc => ?_)
  · rw [if_neg hc] at h
    refine fhW.blk fhPM fhLL hΓ [(.iconst 0, 0), (.istore_n 3, 0)] (pc' := 108) (lv' := [(3, .int (0 : Int32)), (0, .ref 0), (1, .int v1), (2, .int v2)]) (st' := []) (σ' := σ) (by decide +kernel) rfl rfl rfl ?_
    refine fhW.sub (lv' := [(0, .ref 0), (1, .int v1), (3, .int (0 : Int32))]) [1, 2, 0] rfl ?_
    exact fhlp_ok (W := (fun x => fhW fhYM Γ 108 [(0, .ref 0), (1, .int v1), (3, .int x.1)] [] x.2)) (B := (fun o => fhRet Γ (some (.int o.1)) o.2)) (fun x o h hk => L_X12_hear_108 hΓ hd v1 x.1 x.2 o h hk) ((0 : Int32), σ) _ h hk
  · rw [if_pos hc] at h
    refine fhW.blk fhPM fhLL hΓ [(.aload_n 0, 0), (.iconst 1, 1)] (pc' := 102) (lv' := [(0, .ref 0), (1, .int v1), (2, .int v2)]) (st' := [.int (1 : Int32), .ref 0]) (σ' := σ) (by decide +kernel) rfl rfl rfl ?_
    obtain ⟨q1, hb1, h⟩ := Option.bind_eq_some_iff.mp h
    refine fhW.callv hΓ mvX12_refuses ml_12_416 (t := 0) (ci := 12) (av := [.int (1 : Int32)]) (rest := []) (r := (some (.int q1.1))) (σ' := q1.2) (T_X12_refuses (E := fhEn Γ) (d := fhD Γ - 1) (by omega) (1 : Int32) σ hb1) (by omega) (by decide +kernel) rfl rfl rfl (Nat.le_of_ble_eq_true rfl) rfl ?_
    show fhW fhYM Γ 105 [(0, .ref 0), (1, .int v1), (2, .int v2)] [.int q1.1] q1.2
    have e9 := Option.some.inj h
    subst e9
    exact fhW.iret hΓ (by decide +kernel) hk
set_option maxRecDepth 100000 in
set_option maxHeartbeats 4000000 in
theorem L_X12_hear_89 {Γ : fhX} (hΓ : fhOk fhYM 12 cX12_hear 4 (some .int) Γ) (hd : 2 ≤ fhD Γ) (v1 : Int32) (v3 : Int32) (s0 : Int32)  (σ : fhM) (o : (Int32 × Int32) ⊕ (Int32 × fhM)) (h : f_X12_hear_89 v1 v3 s0 σ = some o) (hk : (fhK (fun x => fhW fhYM Γ 36 [(0, .ref 0), (1, .int v1), (2, .int x.1), (3, .int x.2)] [] σ) (fun o => fhRet Γ (some (.int o.1)) o.2)) o) : fhW fhYM Γ 89 [(0, .ref 0), (1, .int v1), (3, .int v3)] [.int s0] σ := by
  unfold f_X12_hear_89 at h
  refine fhW.blk fhPM fhLL hΓ [(.istore_n 2, 0), (.iinc 3 3, 3)] (pc' := 93) (lv' := [(3, .int (v3 + (3 : Int32))), (2, .int s0), (0, .ref 0), (1, .int v1)]) (st' := []) (σ' := σ) (by decide +kernel) rfl rfl rfl ?_
  refine fhW.goto hΓ (off := (-57)) (tgt := 36) (by decide +kernel) ?_
  refine fhW.sub (lv' := [(0, .ref 0), (1, .int v1), (2, .int s0), (3, .int (v3 + (3 : Int32)))]) [2, 3, 1, 0] rfl ?_
  have e9 := Option.some.inj h
  subst e9
  exact hk
set_option maxRecDepth 100000 in
set_option maxHeartbeats 4000000 in
theorem L_X12_hear_88 {Γ : fhX} (hΓ : fhOk fhYM 12 cX12_hear 4 (some .int) Γ) (hd : 2 ≤ fhD Γ) (v1 : Int32) (v3 : Int32)  (σ : fhM) (o : (Int32 × Int32) ⊕ (Int32 × fhM)) (h : f_X12_hear_88 v1 v3 σ = some o) (hk : (fhK (fun x => fhW fhYM Γ 36 [(0, .ref 0), (1, .int v1), (2, .int x.1), (3, .int x.2)] [] σ) (fun o => fhRet Γ (some (.int o.1)) o.2)) o) : fhW fhYM Γ 88 [(0, .ref 0), (1, .int v1), (3, .int v3)] [] σ := by
  unfold f_X12_hear_88 at h
  refine fhW.blk fhPM fhLL hΓ [(.iconst 0, 0)] (pc' := 89) (lv' := [(0, .ref 0), (1, .int v1), (3, .int v3)]) (st' := [.int (0 : Int32)]) (σ' := σ) (by decide +kernel) rfl rfl rfl ?_
  refine fhW.sub (lv' := [(0, .ref 0), (1, .int v1), (3, .int v3)]) [0, 1, 2] rfl ?_
  exact L_X12_hear_89 hΓ hd v1 v3 (0 : Int32) σ _ h hk
set_option maxRecDepth 100000 in
set_option maxHeartbeats 4000000 in
theorem L_X12_hear_36 {Γ : fhX} (hΓ : fhOk fhYM 12 cX12_hear 4 (some .int) Γ) (hd : 2 ≤ fhD Γ) (v1 : Int32) (v2 : Int32) (v3 : Int32)  (σ : fhM) (o : (Int32 × Int32) ⊕ (Int32 × fhM)) (h : f_X12_hear_36 v1 v2 v3 σ = some o) (hk : (fhK (fun x => fhW fhYM Γ 36 [(0, .ref 0), (1, .int v1), (2, .int x.1), (3, .int x.2)] [] σ) (fun o => fhRet Γ (some (.int o.1)) o.2)) o) : fhW fhYM Γ 36 [(0, .ref 0), (1, .int v1), (2, .int v2), (3, .int v3)] [] σ := by
  unfold f_X12_hear_36 at h
  refine fhW.blk fhPM fhLL hΓ [(.iload_n 3, 0), (.iload_n 1, 0)] (pc' := 38) (lv' := [(0, .ref 0), (1, .int v1), (2, .int v2), (3, .int v3)]) (st' := [.int v1, .int v3]) (σ' := σ) (by decide +kernel) rfl rfl rfl ?_
  refine fhW.i_ge hΓ (tgt := 96) (show fhbk _ _ (.if_icmp .ge (58)) _ = true by decide +kernel) (fun hc => ?_) (fun hc => ?_)
  · rw [if_pos hc] at h
    refine fhW.sub (lv' := [(0, .ref 0), (1, .int v1), (2, .int v2)]) [0, 1, 2] rfl ?_
    obtain ⟨z1, hz, e1⟩ := Option.map_eq_some_iff.mp h
    clear h
    subst e1
    have h := hz
    have hk : (fun o => fhRet Γ (some (.int o.1)) o.2) z1 := hk
    exact L_X12_hear_96 hΓ hd v1 v2 σ _ h hk
  · rw [if_neg hc] at h
    refine fhW.blk fhPM fhLL hΓ [(.iload_n 2, 0)] (pc' := 42) (lv' := [(0, .ref 0), (1, .int v1), (2, .int v2), (3, .int v3)]) (st' := [.int v2]) (σ' := σ) (by decide +kernel) rfl rfl rfl ?_
    refine fhW.z_eq hΓ (tgt := 96) (show fhbk _ _ (.ifCond .eq (54)) _ = true by decide +kernel) (fun hc => ?_) (fun hc => ?_)
    · rw [if_pos hc] at h
      refine fhW.sub (lv' := [(0, .ref 0), (1, .int v1), (2, .int v2)]) [0, 1, 2] rfl ?_
      obtain ⟨z2, hz, e2⟩ := Option.map_eq_some_iff.mp h
      clear h
      subst e2
      have h := hz
      have hk : (fun o => fhRet Γ (some (.int o.1)) o.2) z2 := hk
      exact L_X12_hear_96 hΓ hd v1 v2 σ _ h hk
    · rw [if_neg hc] at h
      obtain ⟨hg2, h⟩ := fhif h
      refine fhW.blk fhPM fhLL hΓ [(.aload_n 0, 0), (.getfield 7, 0), (.iload_n 3, 0), (.iaload, 0), (.bipush 15, 15)] (pc' := 53) (lv' := [(0, .ref 0), (1, .int v1), (2, .int v2), (3, .int v3)]) (st' := [.int (15 : Int32), .int (σ.1 1 (fhix v3))]) (σ' := σ) (by decide +kernel) rfl rfl hg2 ?_
      refine fhW.i_gt hΓ (tgt := 88) (show fhbk _ _ (.if_icmp .gt (35)) _ = true by decide +kernel) (fun hc => ?_) (fun hc => ?_)
      · rw [if_pos hc] at h
        refine fhW.sub (lv' := [(0, .ref 0), (1, .int v1), (3, .int v3)]) [0, 1, 3] rfl ?_
        exact L_X12_hear_88 hΓ hd v1 v3 σ _ h hk
      · rw [if_neg hc] at h
        obtain ⟨hg3, h⟩ := fhif h
        refine fhW.blk fhPM fhLL hΓ [(.aload_n 0, 0), (.aload_n 0, 0), (.getfield 7, 0), (.iload_n 3, 0), (.iconst 1, 1), (.iadd, 0), (.iaload, 0), (.i2l, 0)] (pc' := 66) (lv' := [(0, .ref 0), (1, .int v1), (2, .int v2), (3, .int v3)]) (st' := [.long (Int32.toInt64 (σ.1 1 (fhix (v3 + (1 : Int32))))), .ref 0]) (σ' := σ) (by decide +kernel) rfl rfl hg3 ?_
        refine fhW.callv hΓ mvX12_isGuest ml_12_505 (t := 0) (ci := 12) (av := [.long (Int32.toInt64 (σ.1 1 (fhix (v3 + (1 : Int32)))))]) (rest := []) (r := (some (.int (fhb (f_X12_isGuest (Int32.toInt64 (σ.1 1 (fhix (v3 + (1 : Int32))))) σ))))) (σ' := σ) (T_X12_isGuest (E := fhEn Γ) (d := fhD Γ - 1) (by omega) (Int32.toInt64 (σ.1 1 (fhix (v3 + (1 : Int32))))) σ) (by omega) (by decide +kernel) rfl rfl rfl (Nat.le_of_ble_eq_true rfl) rfl ?_
        show fhW fhYM Γ 69 [(0, .ref 0), (1, .int v1), (2, .int v2), (3, .int v3)] [.int (fhb (f_X12_isGuest (Int32.toInt64 (σ.1 1 (fhix (v3 + (1 : Int32))))) σ))] σ
        refine fhW.b_eq hΓ (tgt := 88) (show fhbk _ _ (.ifCond .eq (19)) _ = true by decide +kernel) (fun hc => ?_) (fun hc => ?_)
        · rw [if_neg hc] at h
          refine fhW.sub (lv' := [(0, .ref 0), (1, .int v1), (3, .int v3)]) [0, 1, 3] rfl ?_
          exact L_X12_hear_88 hΓ hd v1 v3 σ _ h hk
        · rw [if_pos hc] at h
          obtain ⟨hg4, h⟩ := fhif h
          refine fhW.blk fhPM fhLL hΓ [(.aload_n 0, 0), (.getfield 7, 0), (.iload_n 3, 0), (.iconst 2, 2), (.iadd, 0), (.iaload, 0), (.iconst 1, 1)] (pc' := 81) (lv' := [(0, .ref 0), (1, .int v1), (2, .int v2), (3, .int v3)]) (st' := [.int (1 : Int32), .int (σ.1 1 (fhix (v3 + (2 : Int32))))]) (σ' := σ) (by decide +kernel) rfl rfl hg4 ?_
          refine fhW.i_gt hΓ (tgt := 88) (show fhbk _ _ (.if_icmp .gt (7)) _ = true by decide +kernel) (fun hc => ?_) (fun hc => ?_)
          · rw [if_pos hc] at h
            refine fhW.sub (lv' := [(0, .ref 0), (1, .int v1), (3, .int v3)]) [0, 1, 3] rfl ?_
            exact L_X12_hear_88 hΓ hd v1 v3 σ _ h hk
          · rw [if_neg hc] at h
            refine fhW.blk fhPM fhLL hΓ [(.iconst 1, 1)] (pc' := 85) (lv' := [(0, .ref 0), (1, .int v1), (2, .int v2), (3, .int v3)]) (st' := [.int (1 : Int32)]) (σ' := σ) (by decide +kernel) rfl rfl rfl ?_
            refine fhW.goto hΓ (off := 4) (tgt := 89) (by decide +kernel) ?_
            refine fhW.sub (lv' := [(0, .ref 0), (1, .int v1), (3, .int v3)]) [0, 1, 3] rfl ?_
            exact L_X12_hear_89 hΓ hd v1 v3 (1 : Int32) σ _ h hk
set_option maxRecDepth 100000 in
set_option maxHeartbeats 4000000 in
theorem L_X12_hear_33 {Γ : fhX} (hΓ : fhOk fhYM 12 cX12_hear 4 (some .int) Γ) (hd : 2 ≤ fhD Γ) (v1 : Int32) (s0 : Int32)  (σ : fhM) (o : Int32 × fhM) (h : f_X12_hear_33 v1 s0 σ = some o) (hk : (fun o => fhRet Γ (some (.int o.1)) o.2) o) : fhW fhYM Γ 33 [(0, .ref 0), (1, .int v1)] [.int s0] σ := by
  unfold f_X12_hear_33 at h
  refine fhW.blk fhPM fhLL hΓ [(.istore_n 2, 0), (.iconst 0, 0), (.istore_n 3, 0)] (pc' := 36) (lv' := [(3, .int (0 : Int32)), (2, .int s0), (0, .ref 0), (1, .int v1)]) (st' := []) (σ' := σ) (by decide +kernel) rfl rfl rfl ?_
  refine fhW.sub (lv' := [(0, .ref 0), (1, .int v1), (2, .int s0), (3, .int (0 : Int32))]) [2, 3, 1, 0] rfl ?_
  exact fhlp_ok (W := (fun x => fhW fhYM Γ 36 [(0, .ref 0), (1, .int v1), (2, .int x.1), (3, .int x.2)] [] σ)) (B := (fun o => fhRet Γ (some (.int o.1)) o.2)) (fun x o h hk => L_X12_hear_36 hΓ hd v1 x.1 x.2 σ o h hk) (s0, (0 : Int32)) _ h hk
set_option maxRecDepth 100000 in
set_option maxHeartbeats 4000000 in
theorem L_X12_hear_32 {Γ : fhX} (hΓ : fhOk fhYM 12 cX12_hear 4 (some .int) Γ) (hd : 2 ≤ fhD Γ) (v1 : Int32)  (σ : fhM) (o : Int32 × fhM) (h : f_X12_hear_32 v1 σ = some o) (hk : (fun o => fhRet Γ (some (.int o.1)) o.2) o) : fhW fhYM Γ 32 [(0, .ref 0), (1, .int v1)] [] σ := by
  unfold f_X12_hear_32 at h
  refine fhW.blk fhPM fhLL hΓ [(.iconst 0, 0)] (pc' := 33) (lv' := [(0, .ref 0), (1, .int v1)]) (st' := [.int (0 : Int32)]) (σ' := σ) (by decide +kernel) rfl rfl rfl ?_
  refine fhW.sub (lv' := [(0, .ref 0), (1, .int v1)]) [0, 1] rfl ?_
  exact L_X12_hear_33 hΓ hd v1 (0 : Int32) σ _ h hk
set_option maxRecDepth 100000 in
set_option maxHeartbeats 4000000 in
theorem L_X12_hear_E {Γ : fhX} (hΓ : fhOk fhYM 12 cX12_hear 4 (some .int) Γ) (hd : 2 ≤ fhD Γ)   (σ : fhM) (o : Int32 × fhM) (h : f_X12_hear σ = some o) (hk : (fun o => fhRet Γ (some (.int o.1)) o.2) o) : fhW fhYM Γ 0 [(0, .ref 0)] [] σ := by
  unfold f_X12_hear at h
  refine fhW.blk fhPM fhLL hΓ [(.aload_n 0, 0), (.getfield 259, 0), (.istore_n 1, 0), (.aload_n 0, 0), (.iconst 0, 0), (.putfield 259, 0), (.iload_n 1, 0)] (pc' := 11) (lv' := [(1, .int (σ.1 0 1)), (0, .ref 0)]) (st' := [.int (σ.1 0 1)]) (σ' := (fhI σ 0 1 (0 : Int32))) (by decide +kernel) rfl rfl rfl ?_
  refine fhW.z_le hΓ (tgt := 32) (show fhbk _ _ (.ifCond .le (21)) _ = true by decide +kernel) (fun hc => ?_) (fun hc => ?_)
  · rw [if_pos hc] at h
    refine fhW.sub (lv' := [(0, .ref 0), (1, .int (σ.1 0 1))]) [1, 0] rfl ?_
    exact L_X12_hear_32 hΓ hd (σ.1 0 1) (fhI σ 0 1 (0 : Int32)) _ h hk
  · rw [if_neg hc] at h
    refine fhW.blk fhPM fhLL hΓ [(.iload_n 1, 0), (.iconst 3, 3), (.irem, 0)] (pc' := 17) (lv' := [(1, .int (σ.1 0 1)), (0, .ref 0)]) (st' := [.int (fhrem (σ.1 0 1) (3 : Int32))]) (σ' := (fhI σ 0 1 (0 : Int32))) (by decide +kernel) rfl rfl rfl ?_
    refine fhW.z_ne hΓ (tgt := 32) (show fhbk _ _ (.ifCond .ne (15)) _ = true by decide +kernel) (fun hc => ?_) (fun hc => ?_)
    · rw [if_neg hc] at h
      refine fhW.sub (lv' := [(0, .ref 0), (1, .int (σ.1 0 1))]) [1, 0] rfl ?_
      exact L_X12_hear_32 hΓ hd (σ.1 0 1) (fhI σ 0 1 (0 : Int32)) _ h hk
    · rw [if_pos hc] at h
      refine fhW.blk fhPM fhLL hΓ [(.iload_n 1, 0), (.iconst 3, 3), (.idiv, 0), (.bipush 16, 16)] (pc' := 25) (lv' := [(1, .int (σ.1 0 1)), (0, .ref 0)]) (st' := [.int (16 : Int32), .int ((σ.1 0 1) / (3 : Int32))]) (σ' := (fhI σ 0 1 (0 : Int32))) (by decide +kernel) rfl rfl rfl ?_
      refine fhW.i_gt hΓ (tgt := 32) (show fhbk _ _ (.if_icmp .gt (7)) _ = true by decide +kernel) (fun hc => ?_) (fun hc => ?_)
      · rw [if_pos hc] at h
        refine fhW.sub (lv' := [(0, .ref 0), (1, .int (σ.1 0 1))]) [1, 0] rfl ?_
        exact L_X12_hear_32 hΓ hd (σ.1 0 1) (fhI σ 0 1 (0 : Int32)) _ h hk
      · rw [if_neg hc] at h
        refine fhW.blk fhPM fhLL hΓ [(.iconst 1, 1)] (pc' := 29) (lv' := [(1, .int (σ.1 0 1)), (0, .ref 0)]) (st' := [.int (1 : Int32)]) (σ' := (fhI σ 0 1 (0 : Int32))) (by decide +kernel) rfl rfl rfl ?_
        refine fhW.goto hΓ (off := 4) (tgt := 33) (by decide +kernel) ?_
        refine fhW.sub (lv' := [(0, .ref 0), (1, .int (σ.1 0 1))]) [1, 0] rfl ?_
        exact L_X12_hear_33 hΓ hd (σ.1 0 1) (1 : Int32) (fhI σ 0 1 (0 : Int32)) _ h hk
set_option maxRecDepth 100000 in
theorem T_X12_hear {E : fhE} {d : Nat} (hd : 2 ≤ d)   (σ : fhM) {o : Int32 × fhM} (h : f_X12_hear σ = some o) : fhC fhYM E d miX12_hear [.ref 0] σ (some (.int o.1)) o.2 := by
  refine fhC.of (y := yX12_hear) (cc := cX12_hear) (nL := 4) (ret := (some .int)) 12 rfl (by decide +kernel) (Nat.le_of_ble_eq_true rfl) ?_
  intro Γ hΓ hR hD hEn
  subst hD; subst hEn
  exact L_X12_hear_E hΓ hd   σ _ h hR
set_option maxRecDepth 100000 in
set_option maxHeartbeats 4000000 in
theorem L_X12_doesFit_63 {Γ : fhX} (hΓ : fhOk fhYM 12 cX12_doesFit 3 (some .boolean) Γ) (hd : 1 ≤ fhD Γ) (v1 : Int32) (v2 : Int32) (s0 : Int32) (s1 : Int32)  (σ : fhM) (o : (Int32) ⊕ (Bool)) (h : f_X12_doesFit_63 v1 v2 s0 s1 σ = some o) (hk : (fhK (fun x => fhW fhYM Γ 13 [(0, .ref 0), (1, .int v1), (2, .int x)] [] σ) (fun o => fhRet Γ (some (.int (fhb o))) σ)) o) : fhW fhYM Γ 63 [(0, .ref 0), (1, .int v1), (2, .int v2)] [.int s0, .int s1] σ := by
  unfold f_X12_doesFit_63 at h
  refine fhW.i_eq hΓ (tgt := 68) (show fhbk _ _ (.if_icmp .eq (5)) _ = true by decide +kernel) (fun hc => ?_) (fun hc => ?_)
  · rw [if_pos hc] at h
    refine fhW.blk fhPM fhLL hΓ [(.iinc 2 1, 1)] (pc' := 71) (lv' := [(2, .int (v2 + (1 : Int32))), (0, .ref 0), (1, .int v1)]) (st' := []) (σ' := σ) (by decide +kernel) rfl rfl rfl ?_
    refine fhW.goto hΓ (off := (-58)) (tgt := 13) (by decide +kernel) ?_
    refine fhW.sub (lv' := [(0, .ref 0), (1, .int v1), (2, .int (v2 + (1 : Int32)))]) [1, 2, 0] rfl ?_
    have e9 := Option.some.inj h
    subst e9
    exact hk
  · rw [if_neg hc] at h
    refine fhW.blk fhPM fhLL hΓ [(.iconst 0, 0)] (pc' := 67) (lv' := [(0, .ref 0), (1, .int v1), (2, .int v2)]) (st' := [.int (0 : Int32)]) (σ' := σ) (by decide +kernel) rfl rfl rfl ?_
    have e9 := Option.some.inj h
    subst e9
    exact fhW.zret (v := false) hΓ (by decide +kernel) hk
set_option maxRecDepth 100000 in
set_option maxHeartbeats 4000000 in
theorem L_X12_doesFit_13 {Γ : fhX} (hΓ : fhOk fhYM 12 cX12_doesFit 3 (some .boolean) Γ) (hd : 1 ≤ fhD Γ) (v1 : Int32) (v2 : Int32)  (σ : fhM) (o : (Int32) ⊕ (Bool)) (h : f_X12_doesFit_13 v1 v2 σ = some o) (hk : (fhK (fun x => fhW fhYM Γ 13 [(0, .ref 0), (1, .int v1), (2, .int x)] [] σ) (fun o => fhRet Γ (some (.int (fhb o))) σ)) o) : fhW fhYM Γ 13 [(0, .ref 0), (1, .int v1), (2, .int v2)] [] σ := by
  unfold f_X12_doesFit_13 at h
  refine fhW.blk fhPM fhLL hΓ [(.iload_n 2, 0), (.aload_n 0, 0), (.getfield 457, 0)] (pc' := 18) (lv' := [(0, .ref 0), (1, .int v1), (2, .int v2)]) (st' := [.int (σ.1 0 68), .int v2]) (σ' := σ) (by decide +kernel) rfl rfl rfl ?_
  refine fhW.i_ge hΓ (tgt := 74) (show fhbk _ _ (.if_icmp .ge (56)) _ = true by decide +kernel) (fun hc => ?_) (fun hc => ?_)
  · rw [if_pos hc] at h
    refine fhW.blk fhPM fhLL hΓ [(.iconst 1, 1)] (pc' := 75) (lv' := [(0, .ref 0), (1, .int v1), (2, .int v2)]) (st' := [.int (1 : Int32)]) (σ' := σ) (by decide +kernel) rfl rfl rfl ?_
    have e9 := Option.some.inj h
    subst e9
    exact fhW.zret (v := true) hΓ (by decide +kernel) hk
  · rw [if_neg hc] at h
    obtain ⟨hg1, h⟩ := fhif h
    refine fhW.blk fhPM fhLL hΓ [(.aload_n 0, 0), (.aload_n 0, 0), (.getfield 165, 0), (.iconst 3, 3), (.iload_n 2, 0), (.imul, 0), (.iaload, 0), (.iload_n 1, 0), (.aload_n 0, 0), (.getfield 165, 0), (.iconst 3, 3), (.iload_n 2, 0), (.imul, 0), (.iconst 1, 1), (.iadd, 0), (.iaload, 0)] (pc' := 41) (lv' := [(0, .ref 0), (1, .int v1), (2, .int v2)]) (st' := [.int (σ.1 50 (fhix (((3 : Int32) * v2) + (1 : Int32)))), .int v1, .int (σ.1 50 (fhix ((3 : Int32) * v2))), .ref 0]) (σ' := σ) (by decide +kernel) rfl rfl hg1 ?_
    obtain ⟨q1, hb1, h⟩ := Option.bind_eq_some_iff.mp h
    refine fhW.callv hΓ mvX12_knewAt ml_12_548 (t := 0) (ci := 12) (av := [.int (σ.1 50 (fhix ((3 : Int32) * v2))), .int v1, .int (σ.1 50 (fhix (((3 : Int32) * v2) + (1 : Int32))))]) (rest := []) (r := (some (.int (fhb q1)))) (σ' := σ) (T_X12_knewAt (E := fhEn Γ) (d := fhD Γ - 1) (by omega) (σ.1 50 (fhix ((3 : Int32) * v2))) v1 (σ.1 50 (fhix (((3 : Int32) * v2) + (1 : Int32)))) σ hb1) (by omega) (by decide +kernel) rfl rfl rfl (Nat.le_of_ble_eq_true rfl) rfl ?_
    show fhW fhYM Γ 44 [(0, .ref 0), (1, .int v1), (2, .int v2)] [.int (fhb q1)] σ
    obtain ⟨hg2, h⟩ := fhif h
    refine fhW.blk fhPM fhLL hΓ [(.aload_n 0, 0), (.getfield 165, 0), (.iconst 3, 3), (.iload_n 2, 0), (.imul, 0), (.iconst 2, 2), (.iadd, 0), (.iaload, 0), (.iconst 1, 1)] (pc' := 55) (lv' := [(0, .ref 0), (1, .int v1), (2, .int v2)]) (st' := [.int (1 : Int32), .int (σ.1 50 (fhix (((3 : Int32) * v2) + (2 : Int32)))), .int (fhb q1)]) (σ' := σ) (by decide +kernel) rfl rfl hg2 ?_
    refine fhW.i_ne hΓ (tgt := 62) (show fhbk _ _ (.if_icmp .ne (7)) _ = true by decide +kernel) (fun hc => ?_) (fun hc => ?_)
    · simp only [if_neg hc] at h
      refine fhW.blk fhPM fhLL hΓ [(.iconst 0, 0)] (pc' := 63) (lv' := [(0, .ref 0), (1, .int v1), (2, .int v2)]) (st' := [.int (0 : Int32), .int (fhb q1)]) (σ' := σ) (by decide +kernel) rfl rfl rfl ?_
      refine fhW.sub (lv' := [(0, .ref 0), (1, .int v1), (2, .int v2)]) [0, 1, 2] rfl ?_
      exact L_X12_doesFit_63 hΓ hd v1 v2 (0 : Int32) (fhb q1) σ _ h hk
    · simp only [if_pos hc] at h
      refine fhW.blk fhPM fhLL hΓ [(.iconst 1, 1)] (pc' := 59) (lv' := [(0, .ref 0), (1, .int v1), (2, .int v2)]) (st' := [.int (1 : Int32), .int (fhb q1)]) (σ' := σ) (by decide +kernel) rfl rfl rfl ?_
      refine fhW.goto hΓ (off := 4) (tgt := 63) (by decide +kernel) ?_
      refine fhW.sub (lv' := [(0, .ref 0), (1, .int v1), (2, .int v2)]) [0, 1, 2] rfl ?_
      exact L_X12_doesFit_63 hΓ hd v1 v2 (1 : Int32) (fhb q1) σ _ h hk
set_option maxRecDepth 100000 in
set_option maxHeartbeats 4000000 in
theorem L_X12_doesFit_E {Γ : fhX} (hΓ : fhOk fhYM 12 cX12_doesFit 3 (some .boolean) Γ) (hd : 1 ≤ fhD Γ) (v1 : Int32)  (σ : fhM) (o : Bool) (h : f_X12_doesFit v1 σ = some o) (hk : (fun o => fhRet Γ (some (.int (fhb o))) σ) o) : fhW fhYM Γ 0 [(0, .ref 0), (1, .int v1)] [] σ := by
  unfold f_X12_doesFit at h
  obtain ⟨hg3, h⟩ := fhif h
  refine fhW.blk fhPM fhLL hΓ [(.aload_n 0, 0), (.getfield 124, 0), (.iload_n 1, 0), (.baload, 0)] (pc' := 6) (lv' := [(0, .ref 0), (1, .int v1)]) (st' := [.int (σ.1 37 (fhix v1))]) (σ' := σ) (by decide +kernel) rfl rfl hg3 ?_
  refine fhW.z_ne hΓ (tgt := 11) (show fhbk _ _ (.ifCond .ne (5)) _ = true by decide +kernel) (fun hc => ?_) (fun hc => ?_)
  · rw [if_neg hc] at h
    refine fhW.blk fhPM fhLL hΓ [(.iconst 0, 0), (.istore_n 2, 0)] (pc' := 13) (lv' := [(2, .int (0 : Int32)), (0, .ref 0), (1, .int v1)]) (st' := []) (σ' := σ) (by decide +kernel) rfl rfl rfl ?_
    refine fhW.sub (lv' := [(0, .ref 0), (1, .int v1), (2, .int (0 : Int32))]) [1, 2, 0] rfl ?_
    exact fhlp_ok (W := (fun x => fhW fhYM Γ 13 [(0, .ref 0), (1, .int v1), (2, .int x)] [] σ)) (B := (fun o => fhRet Γ (some (.int (fhb o))) σ)) (fun x o h hk => L_X12_doesFit_13 hΓ hd v1 x σ o h hk) (0 : Int32) _ h hk
  · rw [if_pos hc] at h
    refine fhW.blk fhPM fhLL hΓ [(.iconst 0, 0)] (pc' := 10) (lv' := [(0, .ref 0), (1, .int v1)]) (st' := [.int (0 : Int32)]) (σ' := σ) (by decide +kernel) rfl rfl rfl ?_
    have e9 := Option.some.inj h
    subst e9
    exact fhW.zret (v := false) hΓ (by decide +kernel) hk
set_option maxRecDepth 100000 in
theorem T_X12_doesFit {E : fhE} {d : Nat} (hd : 1 ≤ d) (v1 : Int32)  (σ : fhM) {o : Bool} (h : f_X12_doesFit v1 σ = some o) : fhC fhYM E d miX12_doesFit [.ref 0, .int v1] σ (some (.int (fhb o))) σ := by
  refine fhC.of (y := yX12_doesFit) (cc := cX12_doesFit) (nL := 3) (ret := (some .boolean)) 12 rfl (by decide +kernel) (Nat.le_of_ble_eq_true rfl) ?_
  intro Γ hΓ hR hD hEn
  subst hD; subst hEn
  exact L_X12_doesFit_E hΓ hd v1  σ _ h hR
set_option maxRecDepth 100000 in
set_option maxHeartbeats 4000000 in
theorem L_X12_fits_47 {Γ : fhX} (hΓ : fhOk fhYM 12 cX12_fits 4 (some .int) Γ) (hd : 2 ≤ fhD Γ) (v1 : Int32) (v2 : Int32) (v3 : Int32)  (σ : fhM) (o : (Int32 × Int32) ⊕ (Int32)) (h : f_X12_fits_47 v1 v2 v3 σ = some o) (hk : (fhK (fun x => fhW fhYM Γ 18 [(0, .ref 0), (1, .int v1), (2, .int x.1), (3, .int x.2)] [] σ) (fun o => fhRet Γ (some (.int o)) σ)) o) : fhW fhYM Γ 47 [(0, .ref 0), (1, .int v1), (2, .int v2), (3, .int v3)] [] σ := by
  unfold f_X12_fits_47 at h
  refine fhW.blk fhPM fhLL hΓ [(.iinc 3 1, 1)] (pc' := 50) (lv' := [(3, .int (v3 + (1 : Int32))), (0, .ref 0), (1, .int v1), (2, .int v2)]) (st' := []) (σ' := σ) (by decide +kernel) rfl rfl rfl ?_
  refine fhW.goto hΓ (off := (-32)) (tgt := 18) (by decide +kernel) ?_
  refine fhW.sub (lv' := [(0, .ref 0), (1, .int v1), (2, .int v2), (3, .int (v3 + (1 : Int32)))]) [1, 2, 3, 0] rfl ?_
  have e9 := Option.some.inj h
  subst e9
  exact hk
set_option maxRecDepth 100000 in
set_option maxHeartbeats 4000000 in
theorem L_X12_fits_18 {Γ : fhX} (hΓ : fhOk fhYM 12 cX12_fits 4 (some .int) Γ) (hd : 2 ≤ fhD Γ) (v1 : Int32) (v2 : Int32) (v3 : Int32)  (σ : fhM) (o : (Int32 × Int32) ⊕ (Int32)) (h : f_X12_fits_18 v1 v2 v3 σ = some o) (hk : (fhK (fun x => fhW fhYM Γ 18 [(0, .ref 0), (1, .int v1), (2, .int x.1), (3, .int x.2)] [] σ) (fun o => fhRet Γ (some (.int o)) σ)) o) : fhW fhYM Γ 18 [(0, .ref 0), (1, .int v1), (2, .int v2), (3, .int v3)] [] σ := by
  unfold f_X12_fits_18 at h
  refine fhW.blk fhPM fhLL hΓ [(.iload_n 3, 0), (.aload_n 0, 0), (.getfield 432, 0)] (pc' := 23) (lv' := [(0, .ref 0), (1, .int v1), (2, .int v2), (3, .int v3)]) (st' := [.int (σ.1 0 52), .int v3]) (σ' := σ) (by decide +kernel) rfl rfl rfl ?_
  refine fhW.i_ge hΓ (tgt := 53) (show fhbk _ _ (.if_icmp .ge (30)) _ = true by decide +kernel) (fun hc => ?_) (fun hc => ?_)
  · rw [if_pos hc] at h
    refine fhW.blk fhPM fhLL hΓ [(.iload_n 1, 0), (.iconst (-1), -1)] (pc' := 55) (lv' := [(0, .ref 0), (1, .int v1), (2, .int v2), (3, .int v3)]) (st' := [.int (-1 : Int32), .int v1]) (σ' := σ) (by decide +kernel) rfl rfl rfl ?_
    refine fhW.i_ne hΓ (tgt := 62) (show fhbk _ _ (.if_icmp .ne (7)) _ = true by decide +kernel) (fun hc => ?_) (fun hc => ?_)
    · rw [if_neg hc] at h
      refine fhW.blk fhPM fhLL hΓ [(.iconst (-1), -1)] (pc' := 63) (lv' := [(0, .ref 0), (1, .int v1), (2, .int v2), (3, .int v3)]) (st' := [.int (-1 : Int32)]) (σ' := σ) (by decide +kernel) rfl rfl rfl ?_
      have e9 := Option.some.inj h
      subst e9
      exact fhW.iret hΓ (by decide +kernel) hk
    · rw [if_pos hc] at h
      refine fhW.blk fhPM fhLL hΓ [(.iload_n 2, 0)] (pc' := 59) (lv' := [(0, .ref 0), (1, .int v1), (2, .int v2), (3, .int v3)]) (st' := [.int v2]) (σ' := σ) (by decide +kernel) rfl rfl rfl ?_
      refine fhW.goto hΓ (off := 4) (tgt := 63) (by decide +kernel) ?_
      have e9 := Option.some.inj h
      subst e9
      exact fhW.iret hΓ (by decide +kernel) hk
  · rw [if_neg hc] at h
    refine fhW.blk fhPM fhLL hΓ [(.aload_n 0, 0), (.iload_n 3, 0)] (pc' := 28) (lv' := [(0, .ref 0), (1, .int v1), (2, .int v2), (3, .int v3)]) (st' := [.int v3, .ref 0]) (σ' := σ) (by decide +kernel) rfl rfl rfl ?_
    obtain ⟨q1, hb1, h⟩ := Option.bind_eq_some_iff.mp h
    refine fhW.callv hΓ mvX12_doesFit ml_12_551 (t := 0) (ci := 12) (av := [.int v3]) (rest := []) (r := (some (.int (fhb q1)))) (σ' := σ) (T_X12_doesFit (E := fhEn Γ) (d := fhD Γ - 1) (by omega) v3 σ hb1) (by omega) (by decide +kernel) rfl rfl rfl (Nat.le_of_ble_eq_true rfl) rfl ?_
    show fhW fhYM Γ 31 [(0, .ref 0), (1, .int v1), (2, .int v2), (3, .int v3)] [.int (fhb q1)] σ
    refine fhW.b_ne hΓ (tgt := 37) (show fhbk _ _ (.ifCond .ne (6)) _ = true by decide +kernel) (fun hc => ?_) (fun hc => ?_)
    · rw [if_pos hc] at h
      refine fhW.blk fhPM fhLL hΓ [(.iload_n 2, 0), (.iload_n 1, 0)] (pc' := 39) (lv' := [(0, .ref 0), (1, .int v1), (2, .int v2), (3, .int v3)]) (st' := [.int v1, .int v2]) (σ' := σ) (by decide +kernel) rfl rfl rfl ?_
      refine fhW.i_ne hΓ (tgt := 44) (show fhbk _ _ (.if_icmp .ne (5)) _ = true by decide +kernel) (fun hc => ?_) (fun hc => ?_)
      · rw [if_neg hc] at h
        refine fhW.blk fhPM fhLL hΓ [(.iinc 2 1, 1)] (pc' := 47) (lv' := [(2, .int (v2 + (1 : Int32))), (0, .ref 0), (1, .int v1), (3, .int v3)]) (st' := []) (σ' := σ) (by decide +kernel) rfl rfl rfl ?_
        refine fhW.sub (lv' := [(0, .ref 0), (1, .int v1), (2, .int (v2 + (1 : Int32))), (3, .int v3)]) [1, 2, 0, 3] rfl ?_
        exact L_X12_fits_47 hΓ hd v1 (v2 + (1 : Int32)) v3 σ _ h hk
      · rw [if_pos hc] at h
        refine fhW.blk fhPM fhLL hΓ [(.iload_n 3, 0)] (pc' := 43) (lv' := [(0, .ref 0), (1, .int v1), (2, .int v2), (3, .int v3)]) (st' := [.int v3]) (σ' := σ) (by decide +kernel) rfl rfl rfl ?_
        have e9 := Option.some.inj h
        subst e9
        exact fhW.iret hΓ (by decide +kernel) hk
    · rw [if_neg hc] at h
      refine fhW.goto hΓ (off := 13) (tgt := 47) (by decide +kernel) ?_
      refine fhW.sub (lv' := [(0, .ref 0), (1, .int v1), (2, .int v2), (3, .int v3)]) [0, 1, 2, 3] rfl ?_
      exact L_X12_fits_47 hΓ hd v1 v2 v3 σ _ h hk
set_option maxRecDepth 100000 in
set_option maxHeartbeats 4000000 in
theorem L_X12_fits_E {Γ : fhX} (hΓ : fhOk fhYM 12 cX12_fits 4 (some .int) Γ) (hd : 2 ≤ fhD Γ) (v1 : Int32)  (σ : fhM) (o : Int32) (h : f_X12_fits v1 σ = some o) (hk : (fun o => fhRet Γ (some (.int o)) σ) o) : fhW fhYM Γ 0 [(0, .ref 0), (1, .int v1)] [] σ := by
  unfold f_X12_fits at h
  refine fhW.blk fhPM fhLL hΓ [(.aload_n 0, 0), (.getfield 441, 0)] (pc' := 4) (lv' := [(0, .ref 0), (1, .int v1)]) (st' := [.int (σ.1 0 47)]) (σ' := σ) (by decide +kernel) rfl rfl rfl ?_
  refine fhW.z_eq hΓ (tgt := 12) (show fhbk _ _ (.ifCond .eq (8)) _ = true by decide +kernel) (fun hc => ?_) (fun hc => ?_)
  · rw [if_pos hc] at h
    refine fhW.blk fhPM fhLL hΓ [(.iconst (-1), -1)] (pc' := 13) (lv' := [(0, .ref 0), (1, .int v1)]) (st' := [.int (-1 : Int32)]) (σ' := σ) (by decide +kernel) rfl rfl rfl ?_
    have e9 := Option.some.inj h
    subst e9
    exact fhW.iret hΓ (by decide +kernel) hk
  · rw [if_neg hc] at h
    refine fhW.blk fhPM fhLL hΓ [(.iload_n 1, 0), (.iconst (-1), -1)] (pc' := 9) (lv' := [(0, .ref 0), (1, .int v1)]) (st' := [.int (-1 : Int32), .int v1]) (σ' := σ) (by decide +kernel) rfl rfl rfl ?_
    refine fhW.i_ge hΓ (tgt := 14) (show fhbk _ _ (.if_icmp .ge (5)) _ = true by decide +kernel) (fun hc => ?_) (fun hc => ?_)
    · rw [if_pos hc] at h
      refine fhW.blk fhPM fhLL hΓ [(.iconst 0, 0), (.istore_n 2, 0), (.iconst 0, 0), (.istore_n 3, 0)] (pc' := 18) (lv' := [(3, .int (0 : Int32)), (2, .int (0 : Int32)), (0, .ref 0), (1, .int v1)]) (st' := []) (σ' := σ) (by decide +kernel) rfl rfl rfl ?_
      refine fhW.sub (lv' := [(0, .ref 0), (1, .int v1), (2, .int (0 : Int32)), (3, .int (0 : Int32))]) [2, 3, 1, 0] rfl ?_
      exact fhlp_ok (W := (fun x => fhW fhYM Γ 18 [(0, .ref 0), (1, .int v1), (2, .int x.1), (3, .int x.2)] [] σ)) (B := (fun o => fhRet Γ (some (.int o)) σ)) (fun x o h hk => L_X12_fits_18 hΓ hd v1 x.1 x.2 σ o h hk) ((0 : Int32), (0 : Int32)) _ h hk
    · rw [if_neg hc] at h
      refine fhW.blk fhPM fhLL hΓ [(.iconst (-1), -1)] (pc' := 13) (lv' := [(0, .ref 0), (1, .int v1)]) (st' := [.int (-1 : Int32)]) (σ' := σ) (by decide +kernel) rfl rfl rfl ?_
      have e9 := Option.some.inj h
      subst e9
      exact fhW.iret hΓ (by decide +kernel) hk
set_option maxRecDepth 100000 in
theorem T_X12_fits {E : fhE} {d : Nat} (hd : 2 ≤ d) (v1 : Int32)  (σ : fhM) {o : Int32} (h : f_X12_fits v1 σ = some o) : fhC fhYM E d miX12_fits [.ref 0, .int v1] σ (some (.int o)) σ := by
  refine fhC.of (y := yX12_fits) (cc := cX12_fits) (nL := 4) (ret := (some .int)) 12 rfl (by decide +kernel) (Nat.le_of_ble_eq_true rfl) ?_
  intro Γ hΓ hR hD hEn
  subst hD; subst hEn
  exact L_X12_fits_E hΓ hd v1  σ _ h hR
set_option maxRecDepth 100000 in
set_option maxHeartbeats 4000000 in
theorem L_X12_could_42 {Γ : fhX} (hΓ : fhOk fhYM 12 cX12_could 4 (some .int) Γ) (hd : 2 ≤ fhD Γ) (v1 : Int32) (v2 : Int32) (v3 : Int32)  (σ : fhM) (o : (Int32 × Int32) ⊕ (Int32)) (h : f_X12_could_42 v1 v2 v3 σ = some o) (hk : (fhK (fun x => fhW fhYM Γ 15 [(0, .ref 0), (1, .int v1), (2, .int x.1), (3, .int x.2)] [] σ) (fun o => fhRet Γ (some (.int o)) σ)) o) : fhW fhYM Γ 42 [(0, .ref 0), (1, .int v1), (2, .int v2), (3, .int v3)] [] σ := by
  unfold f_X12_could_42 at h
  refine fhW.blk fhPM fhLL hΓ [(.iinc 3 1, 1)] (pc' := 45) (lv' := [(3, .int (v3 + (1 : Int32))), (0, .ref 0), (1, .int v1), (2, .int v2)]) (st' := []) (σ' := σ) (by decide +kernel) rfl rfl rfl ?_
  refine fhW.goto hΓ (off := (-30)) (tgt := 15) (by decide +kernel) ?_
  refine fhW.sub (lv' := [(0, .ref 0), (1, .int v1), (2, .int v2), (3, .int (v3 + (1 : Int32)))]) [1, 2, 3, 0] rfl ?_
  have e9 := Option.some.inj h
  subst e9
  exact hk
set_option maxRecDepth 100000 in
set_option maxHeartbeats 4000000 in
theorem L_X12_could_15 {Γ : fhX} (hΓ : fhOk fhYM 12 cX12_could 4 (some .int) Γ) (hd : 2 ≤ fhD Γ) (v1 : Int32) (v2 : Int32) (v3 : Int32)  (σ : fhM) (o : (Int32 × Int32) ⊕ (Int32)) (h : f_X12_could_15 v1 v2 v3 σ = some o) (hk : (fhK (fun x => fhW fhYM Γ 15 [(0, .ref 0), (1, .int v1), (2, .int x.1), (3, .int x.2)] [] σ) (fun o => fhRet Γ (some (.int o)) σ)) o) : fhW fhYM Γ 15 [(0, .ref 0), (1, .int v1), (2, .int v2), (3, .int v3)] [] σ := by
  unfold f_X12_could_15 at h
  refine fhW.blk fhPM fhLL hΓ [(.iload_n 3, 0), (.aload_n 0, 0), (.getfield 432, 0)] (pc' := 20) (lv' := [(0, .ref 0), (1, .int v1), (2, .int v2), (3, .int v3)]) (st' := [.int (σ.1 0 52), .int v3]) (σ' := σ) (by decide +kernel) rfl rfl rfl ?_
  refine fhW.i_ge hΓ (tgt := 48) (show fhbk _ _ (.if_icmp .ge (28)) _ = true by decide +kernel) (fun hc => ?_) (fun hc => ?_)
  · rw [if_pos hc] at h
    refine fhW.blk fhPM fhLL hΓ [(.iload_n 2, 0)] (pc' := 49) (lv' := [(0, .ref 0), (1, .int v1), (2, .int v2), (3, .int v3)]) (st' := [.int v2]) (σ' := σ) (by decide +kernel) rfl rfl rfl ?_
    have e9 := Option.some.inj h
    subst e9
    exact fhW.iret hΓ (by decide +kernel) hk
  · rw [if_neg hc] at h
    refine fhW.blk fhPM fhLL hΓ [(.aload_n 0, 0), (.iload_n 3, 0)] (pc' := 25) (lv' := [(0, .ref 0), (1, .int v1), (2, .int v2), (3, .int v3)]) (st' := [.int v3, .ref 0]) (σ' := σ) (by decide +kernel) rfl rfl rfl ?_
    obtain ⟨q1, hb1, h⟩ := Option.bind_eq_some_iff.mp h
    refine fhW.callv hΓ mvX12_doesFit ml_12_551 (t := 0) (ci := 12) (av := [.int v3]) (rest := []) (r := (some (.int (fhb q1)))) (σ' := σ) (T_X12_doesFit (E := fhEn Γ) (d := fhD Γ - 1) (by omega) v3 σ hb1) (by omega) (by decide +kernel) rfl rfl rfl (Nat.le_of_ble_eq_true rfl) rfl ?_
    show fhW fhYM Γ 28 [(0, .ref 0), (1, .int v1), (2, .int v2), (3, .int v3)] [.int (fhb q1)] σ
    refine fhW.b_eq hΓ (tgt := 42) (show fhbk _ _ (.ifCond .eq (14)) _ = true by decide +kernel) (fun hc => ?_) (fun hc => ?_)
    · rw [if_neg hc] at h
      refine fhW.sub (lv' := [(0, .ref 0), (1, .int v1), (2, .int v2), (3, .int v3)]) [0, 1, 2, 3] rfl ?_
      exact L_X12_could_42 hΓ hd v1 v2 v3 σ _ h hk
    · rw [if_pos hc] at h
      refine fhW.blk fhPM fhLL hΓ [(.iload_n 2, 0), (.iconst 1, 1), (.aload_n 0, 0), (.iload_n 3, 0), (.iload_n 1, 0)] (pc' := 36) (lv' := [(0, .ref 0), (1, .int v1), (2, .int v2), (3, .int v3)]) (st' := [.int v1, .int v3, .ref 0, .int (1 : Int32), .int v2]) (σ' := σ) (by decide +kernel) rfl rfl rfl ?_
      obtain ⟨q2, hb2, h⟩ := Option.bind_eq_some_iff.mp h
      refine fhW.callv hΓ mvX12_markOf ml_12_429 (t := 0) (ci := 12) (av := [.int v3, .int v1]) (rest := [.int (1 : Int32), .int v2]) (r := (some (.int q2))) (σ' := σ) (T_X12_markOf (E := fhEn Γ) (d := fhD Γ - 1) (by omega) v3 v1 σ hb2) (by omega) (by decide +kernel) rfl rfl rfl (Nat.le_of_ble_eq_true rfl) rfl ?_
      show fhW fhYM Γ 39 [(0, .ref 0), (1, .int v1), (2, .int v2), (3, .int v3)] [.int q2, .int (1 : Int32), .int v2] σ
      refine fhW.blk fhPM fhLL hΓ [(.ishl, 0), (.ior, 0), (.istore_n 2, 0)] (pc' := 42) (lv' := [(2, .int (v2 ||| ((1 : Int32) <<< (q2 &&& 31)))), (0, .ref 0), (1, .int v1), (3, .int v3)]) (st' := []) (σ' := σ) (by decide +kernel) rfl rfl rfl ?_
      refine fhW.sub (lv' := [(0, .ref 0), (1, .int v1), (2, .int (v2 ||| ((1 : Int32) <<< (q2 &&& 31)))), (3, .int v3)]) [1, 2, 0, 3] rfl ?_
      exact L_X12_could_42 hΓ hd v1 (v2 ||| ((1 : Int32) <<< (q2 &&& 31))) v3 σ _ h hk
set_option maxRecDepth 100000 in
set_option maxHeartbeats 4000000 in
theorem L_X12_could_E {Γ : fhX} (hΓ : fhOk fhYM 12 cX12_could 4 (some .int) Γ) (hd : 2 ≤ fhD Γ) (v1 : Int32)  (σ : fhM) (o : Int32) (h : f_X12_could v1 σ = some o) (hk : (fun o => fhRet Γ (some (.int o)) σ) o) : fhW fhYM Γ 0 [(0, .ref 0), (1, .int v1)] [] σ := by
  unfold f_X12_could at h
  refine fhW.blk fhPM fhLL hΓ [(.aload_n 0, 0), (.iload_n 1, 0), (.i2l, 0)] (pc' := 3) (lv' := [(0, .ref 0), (1, .int v1)]) (st' := [.long (Int32.toInt64 v1), .ref 0]) (σ' := σ) (by decide +kernel) rfl rfl rfl ?_
  refine fhW.callv hΓ mvX12_isGuest ml_12_505 (t := 0) (ci := 12) (av := [.long (Int32.toInt64 v1)]) (rest := []) (r := (some (.int (fhb (f_X12_isGuest (Int32.toInt64 v1) σ))))) (σ' := σ) (T_X12_isGuest (E := fhEn Γ) (d := fhD Γ - 1) (by omega) (Int32.toInt64 v1) σ) (by omega) (by decide +kernel) rfl rfl rfl (Nat.le_of_ble_eq_true rfl) rfl ?_
  show fhW fhYM Γ 6 [(0, .ref 0), (1, .int v1)] [.int (fhb (f_X12_isGuest (Int32.toInt64 v1) σ))] σ
  refine fhW.b_ne hΓ (tgt := 11) (show fhbk _ _ (.ifCond .ne (5)) _ = true by decide +kernel) (fun hc => ?_) (fun hc => ?_)
  · rw [if_pos hc] at h
    refine fhW.blk fhPM fhLL hΓ [(.iconst 0, 0), (.istore_n 2, 0), (.iconst 0, 0), (.istore_n 3, 0)] (pc' := 15) (lv' := [(3, .int (0 : Int32)), (2, .int (0 : Int32)), (0, .ref 0), (1, .int v1)]) (st' := []) (σ' := σ) (by decide +kernel) rfl rfl rfl ?_
    refine fhW.sub (lv' := [(0, .ref 0), (1, .int v1), (2, .int (0 : Int32)), (3, .int (0 : Int32))]) [2, 3, 1, 0] rfl ?_
    exact fhlp_ok (W := (fun x => fhW fhYM Γ 15 [(0, .ref 0), (1, .int v1), (2, .int x.1), (3, .int x.2)] [] σ)) (B := (fun o => fhRet Γ (some (.int o)) σ)) (fun x o h hk => L_X12_could_15 hΓ hd v1 x.1 x.2 σ o h hk) ((0 : Int32), (0 : Int32)) _ h hk
  · rw [if_neg hc] at h
    refine fhW.blk fhPM fhLL hΓ [(.iconst (-1), -1)] (pc' := 10) (lv' := [(0, .ref 0), (1, .int v1)]) (st' := [.int (-1 : Int32)]) (σ' := σ) (by decide +kernel) rfl rfl rfl ?_
    have e9 := Option.some.inj h
    subst e9
    exact fhW.iret hΓ (by decide +kernel) hk
set_option maxRecDepth 100000 in
theorem T_X12_could {E : fhE} {d : Nat} (hd : 2 ≤ d) (v1 : Int32)  (σ : fhM) {o : Int32} (h : f_X12_could v1 σ = some o) : fhC fhYM E d miX12_could [.ref 0, .int v1] σ (some (.int o)) σ := by
  refine fhC.of (y := yX12_could) (cc := cX12_could) (nL := 4) (ret := (some .int)) 12 rfl (by decide +kernel) (Nat.le_of_ble_eq_true rfl) ?_
  intro Γ hΓ hR hD hEn
  subst hD; subst hEn
  exact L_X12_could_E hΓ hd v1  σ _ h hR
set_option maxRecDepth 100000 in
set_option maxHeartbeats 4000000 in
theorem L_X12_mostAlike_38 {Γ : fhX} (hΓ : fhOk fhYM 12 cX12_mostAlike 6 (some .int) Γ) (hd : 2 ≤ fhD Γ) (v1 : Int32) (v2 : Int32) (v3 : Int32) (v4 : Int32) (v5 : Int32)  (σ : fhM) (o : (Int32 × Int32) ⊕ (Int32)) (h : f_X12_mostAlike_38 v1 v2 v3 v4 v5 σ = some o) (hk : (fhK (fun x => fhW fhYM Γ 6 [(0, .ref 0), (1, .int v1), (2, .int v2), (3, .int v3), (4, .int x.1), (5, .int x.2)] [] σ) (fun o => fhRet Γ (some (.int o)) σ)) o) : fhW fhYM Γ 38 [(0, .ref 0), (1, .int v1), (2, .int v2), (3, .int v3), (4, .int v4), (5, .int v5)] [] σ := by
  unfold f_X12_mostAlike_38 at h
  refine fhW.blk fhPM fhLL hΓ [(.iinc 5 1, 1)] (pc' := 41) (lv' := [(5, .int (v5 + (1 : Int32))), (0, .ref 0), (1, .int v1), (2, .int v2), (3, .int v3), (4, .int v4)]) (st' := []) (σ' := σ) (by decide +kernel) rfl rfl rfl ?_
  refine fhW.goto hΓ (off := (-35)) (tgt := 6) (by decide +kernel) ?_
  refine fhW.sub (lv' := [(0, .ref 0), (1, .int v1), (2, .int v2), (3, .int v3), (4, .int v4), (5, .int (v5 + (1 : Int32)))]) [1, 2, 3, 4, 5, 0] rfl ?_
  have e9 := Option.some.inj h
  subst e9
  exact hk
set_option maxRecDepth 100000 in
set_option maxHeartbeats 4000000 in
theorem L_X12_mostAlike_6 {Γ : fhX} (hΓ : fhOk fhYM 12 cX12_mostAlike 6 (some .int) Γ) (hd : 2 ≤ fhD Γ) (v1 : Int32) (v2 : Int32) (v3 : Int32) (v4 : Int32) (v5 : Int32)  (σ : fhM) (o : (Int32 × Int32) ⊕ (Int32)) (h : f_X12_mostAlike_6 v1 v2 v3 v4 v5 σ = some o) (hk : (fhK (fun x => fhW fhYM Γ 6 [(0, .ref 0), (1, .int v1), (2, .int v2), (3, .int v3), (4, .int x.1), (5, .int x.2)] [] σ) (fun o => fhRet Γ (some (.int o)) σ)) o) : fhW fhYM Γ 6 [(0, .ref 0), (1, .int v1), (2, .int v2), (3, .int v3), (4, .int v4), (5, .int v5)] [] σ := by
  unfold f_X12_mostAlike_6 at h
  refine fhW.blk fhPM fhLL hΓ [(.iload 5, 0), (.aload_n 0, 0), (.getfield 432, 0)] (pc' := 12) (lv' := [(0, .ref 0), (1, .int v1), (2, .int v2), (3, .int v3), (4, .int v4), (5, .int v5)]) (st' := [.int (σ.1 0 52), .int v5]) (σ' := σ) (by decide +kernel) rfl rfl rfl ?_
  refine fhW.i_ge hΓ (tgt := 44) (show fhbk _ _ (.if_icmp .ge (32)) _ = true by decide +kernel) (fun hc => ?_) (fun hc => ?_)
  · rw [if_pos hc] at h
    refine fhW.blk fhPM fhLL hΓ [(.iload 4, 0), (.iload_n 3, 0), (.iload 4, 0), (.isub, 0)] (pc' := 50) (lv' := [(0, .ref 0), (1, .int v1), (2, .int v2), (3, .int v3), (4, .int v4), (5, .int v5)]) (st' := [.int (v3 - v4), .int v4]) (σ' := σ) (by decide +kernel) rfl rfl rfl ?_
    refine fhW.i_ge hΓ (tgt := 60) (show fhbk _ _ (.if_icmp .ge (10)) _ = true by decide +kernel) (fun hc => ?_) (fun hc => ?_)
    · rw [if_pos hc] at h
      refine fhW.blk fhPM fhLL hΓ [(.iload 4, 0)] (pc' := 62) (lv' := [(0, .ref 0), (1, .int v1), (2, .int v2), (3, .int v3), (4, .int v4), (5, .int v5)]) (st' := [.int v4]) (σ' := σ) (by decide +kernel) rfl rfl rfl ?_
      have e9 := Option.some.inj h
      subst e9
      exact fhW.iret hΓ (by decide +kernel) hk
    · rw [if_neg hc] at h
      refine fhW.blk fhPM fhLL hΓ [(.iload_n 3, 0), (.iload 4, 0), (.isub, 0)] (pc' := 57) (lv' := [(0, .ref 0), (1, .int v1), (2, .int v2), (3, .int v3), (4, .int v4), (5, .int v5)]) (st' := [.int (v3 - v4)]) (σ' := σ) (by decide +kernel) rfl rfl rfl ?_
      refine fhW.goto hΓ (off := 5) (tgt := 62) (by decide +kernel) ?_
      have e9 := Option.some.inj h
      subst e9
      exact fhW.iret hΓ (by decide +kernel) hk
  · rw [if_neg hc] at h
    refine fhW.blk fhPM fhLL hΓ [(.aload_n 0, 0), (.iload 5, 0)] (pc' := 18) (lv' := [(0, .ref 0), (1, .int v1), (2, .int v2), (3, .int v3), (4, .int v4), (5, .int v5)]) (st' := [.int v5, .ref 0]) (σ' := σ) (by decide +kernel) rfl rfl rfl ?_
    obtain ⟨q1, hb1, h⟩ := Option.bind_eq_some_iff.mp h
    refine fhW.callv hΓ mvX12_doesFit ml_12_551 (t := 0) (ci := 12) (av := [.int v5]) (rest := []) (r := (some (.int (fhb q1)))) (σ' := σ) (T_X12_doesFit (E := fhEn Γ) (d := fhD Γ - 1) (by omega) v5 σ hb1) (by omega) (by decide +kernel) rfl rfl rfl (Nat.le_of_ble_eq_true rfl) rfl ?_
    show fhW fhYM Γ 21 [(0, .ref 0), (1, .int v1), (2, .int v2), (3, .int v3), (4, .int v4), (5, .int v5)] [.int (fhb q1)] σ
    refine fhW.b_eq hΓ (tgt := 38) (show fhbk _ _ (.ifCond .eq (17)) _ = true by decide +kernel) (fun hc => ?_) (fun hc => ?_)
    · rw [if_neg hc] at h
      refine fhW.sub (lv' := [(0, .ref 0), (1, .int v1), (2, .int v2), (3, .int v3), (4, .int v4), (5, .int v5)]) [0, 1, 2, 3, 4, 5] rfl ?_
      exact L_X12_mostAlike_38 hΓ hd v1 v2 v3 v4 v5 σ _ h hk
    · rw [if_pos hc] at h
      refine fhW.blk fhPM fhLL hΓ [(.aload_n 0, 0), (.iload_n 1, 0), (.iload 5, 0), (.iload_n 2, 0)] (pc' := 29) (lv' := [(0, .ref 0), (1, .int v1), (2, .int v2), (3, .int v3), (4, .int v4), (5, .int v5)]) (st' := [.int v2, .int v5, .int v1, .ref 0]) (σ' := σ) (by decide +kernel) rfl rfl rfl ?_
      obtain ⟨q2, hb2, h⟩ := Option.bind_eq_some_iff.mp h
      refine fhW.callv hΓ mvX12_knewAt ml_12_548 (t := 0) (ci := 12) (av := [.int v1, .int v5, .int v2]) (rest := []) (r := (some (.int (fhb q2)))) (σ' := σ) (T_X12_knewAt (E := fhEn Γ) (d := fhD Γ - 1) (by omega) v1 v5 v2 σ hb2) (by omega) (by decide +kernel) rfl rfl rfl (Nat.le_of_ble_eq_true rfl) rfl ?_
      show fhW fhYM Γ 32 [(0, .ref 0), (1, .int v1), (2, .int v2), (3, .int v3), (4, .int v4), (5, .int v5)] [.int (fhb q2)] σ
      refine fhW.b_eq hΓ (tgt := 38) (show fhbk _ _ (.ifCond .eq (6)) _ = true by decide +kernel) (fun hc => ?_) (fun hc => ?_)
      · simp only [if_neg hc] at h
        refine fhW.sub (lv' := [(0, .ref 0), (1, .int v1), (2, .int v2), (3, .int v3), (4, .int v4), (5, .int v5)]) [0, 1, 2, 3, 4, 5] rfl ?_
        exact L_X12_mostAlike_38 hΓ hd v1 v2 v3 v4 v5 σ _ h hk
      · simp only [if_pos hc] at h
        refine fhW.blk fhPM fhLL hΓ [(.iinc 4 1, 1)] (pc' := 38) (lv' := [(4, .int (v4 + (1 : Int32))), (0, .ref 0), (1, .int v1), (2, .int v2), (3, .int v3), (5, .int v5)]) (st' := []) (σ' := σ) (by decide +kernel) rfl rfl rfl ?_
        refine fhW.sub (lv' := [(0, .ref 0), (1, .int v1), (2, .int v2), (3, .int v3), (4, .int (v4 + (1 : Int32))), (5, .int v5)]) [1, 2, 3, 4, 0, 5] rfl ?_
        exact L_X12_mostAlike_38 hΓ hd v1 v2 v3 (v4 + (1 : Int32)) v5 σ _ h hk
set_option maxRecDepth 100000 in
set_option maxHeartbeats 4000000 in
theorem L_X12_mostAlike_E {Γ : fhX} (hΓ : fhOk fhYM 12 cX12_mostAlike 6 (some .int) Γ) (hd : 2 ≤ fhD Γ) (v1 : Int32) (v2 : Int32) (v3 : Int32)  (σ : fhM) (o : Int32) (h : f_X12_mostAlike v1 v2 v3 σ = some o) (hk : (fun o => fhRet Γ (some (.int o)) σ) o) : fhW fhYM Γ 0 [(0, .ref 0), (1, .int v1), (2, .int v2), (3, .int v3)] [] σ := by
  unfold f_X12_mostAlike at h
  refine fhW.blk fhPM fhLL hΓ [(.iconst 0, 0), (.istore 4, 0), (.iconst 0, 0), (.istore 5, 0)] (pc' := 6) (lv' := [(5, .int (0 : Int32)), (4, .int (0 : Int32)), (0, .ref 0), (1, .int v1), (2, .int v2), (3, .int v3)]) (st' := []) (σ' := σ) (by decide +kernel) rfl rfl rfl ?_
  refine fhW.sub (lv' := [(0, .ref 0), (1, .int v1), (2, .int v2), (3, .int v3), (4, .int (0 : Int32)), (5, .int (0 : Int32))]) [2, 3, 4, 5, 1, 0] rfl ?_
  exact fhlp_ok (W := (fun x => fhW fhYM Γ 6 [(0, .ref 0), (1, .int v1), (2, .int v2), (3, .int v3), (4, .int x.1), (5, .int x.2)] [] σ)) (B := (fun o => fhRet Γ (some (.int o)) σ)) (fun x o h hk => L_X12_mostAlike_6 hΓ hd v1 v2 v3 x.1 x.2 σ o h hk) ((0 : Int32), (0 : Int32)) _ h hk
set_option maxRecDepth 100000 in
theorem T_X12_mostAlike {E : fhE} {d : Nat} (hd : 2 ≤ d) (v1 : Int32) (v2 : Int32) (v3 : Int32)  (σ : fhM) {o : Int32} (h : f_X12_mostAlike v1 v2 v3 σ = some o) : fhC fhYM E d miX12_mostAlike [.ref 0, .int v1, .int v2, .int v3] σ (some (.int o)) σ := by
  refine fhC.of (y := yX12_mostAlike) (cc := cX12_mostAlike) (nL := 6) (ret := (some .int)) 12 rfl (by decide +kernel) (Nat.le_of_ble_eq_true rfl) ?_
  intro Γ hΓ hR hD hEn
  subst hD; subst hEn
  exact L_X12_mostAlike_E hΓ hd v1 v2 v3  σ _ h hR
set_option maxRecDepth 100000 in
set_option maxHeartbeats 4000000 in
theorem L_X12_tells_110 {Γ : fhX} (hΓ : fhOk fhYM 12 cX12_tells 9 (some .int) Γ) (hd : 3 ≤ fhD Γ) (v1 : Int32) (v3 : Int32) (v4 : Int32) (v5 : Int32)  (σ : fhM) (o : Int32) (h : f_X12_tells_110 v1 v3 v4 v5 σ = some o) (hk : (fun o => fhRet Γ (some (.int o)) σ) o) : fhW fhYM Γ 110 [(1, .int v1), (3, .int v3), (4, .int v4), (5, .int v5)] [] σ := by
  unfold f_X12_tells_110 at h
  refine fhW.blk fhPM fhLL hΓ [(.iload_n 3, 0), (.iconst (-1), -1)] (pc' := 112) (lv' := [(1, .int v1), (3, .int v3), (4, .int v4), (5, .int v5)]) (st' := [.int (-1 : Int32), .int v3]) (σ' := σ) (by decide +kernel) rfl rfl rfl ?_
  refine fhW.i_ne hΓ (tgt := 119) (show fhbk _ _ (.if_icmp .ne (7)) _ = true by decide +kernel) (fun hc => ?_) (fun hc => ?_)
  · rw [if_neg hc] at h
    refine fhW.blk fhPM fhLL hΓ [(.iload_n 1, 0)] (pc' := 120) (lv' := [(1, .int v1), (3, .int v3), (4, .int v4), (5, .int v5)]) (st' := [.int v1]) (σ' := σ) (by decide +kernel) rfl rfl rfl ?_
    refine fhW.z_ne hΓ (tgt := 127) (show fhbk _ _ (.ifCond .ne (7)) _ = true by decide +kernel) (fun hc => ?_) (fun hc => ?_)
    · rw [if_neg hc] at h
      refine fhW.blk fhPM fhLL hΓ [(.iload_n 1, 0), (.iconst 1, 1)] (pc' := 129) (lv' := [(1, .int v1), (3, .int v3), (4, .int v4), (5, .int v5)]) (st' := [.int (1 : Int32), .int v1]) (σ' := σ) (by decide +kernel) rfl rfl rfl ?_
      refine fhW.i_ne hΓ (tgt := 137) (show fhbk _ _ (.if_icmp .ne (8)) _ = true by decide +kernel) (fun hc => ?_) (fun hc => ?_)
      · rw [if_neg hc] at h
        refine fhW.blk fhPM fhLL hΓ [(.iload 5, 0)] (pc' := 139) (lv' := [(1, .int v1), (3, .int v3), (4, .int v4), (5, .int v5)]) (st' := [.int v5]) (σ' := σ) (by decide +kernel) rfl rfl rfl ?_
        have e9 := Option.some.inj h
        subst e9
        exact fhW.iret hΓ (by decide +kernel) hk
      · rw [if_pos hc] at h
        refine fhW.blk fhPM fhLL hΓ [(.iload 4, 0)] (pc' := 134) (lv' := [(1, .int v1), (3, .int v3), (4, .int v4), (5, .int v5)]) (st' := [.int v4]) (σ' := σ) (by decide +kernel) rfl rfl rfl ?_
        refine fhW.goto hΓ (off := 5) (tgt := 139) (by decide +kernel) ?_
        have e9 := Option.some.inj h
        subst e9
        exact fhW.iret hΓ (by decide +kernel) hk
    · rw [if_pos hc] at h
      refine fhW.blk fhPM fhLL hΓ [(.iload_n 3, 0)] (pc' := 124) (lv' := [(1, .int v1), (3, .int v3), (4, .int v4), (5, .int v5)]) (st' := [.int v3]) (σ' := σ) (by decide +kernel) rfl rfl rfl ?_
      refine fhW.goto hΓ (off := 15) (tgt := 139) (by decide +kernel) ?_
      have e9 := Option.some.inj h
      subst e9
      exact fhW.iret hΓ (by decide +kernel) hk
  · rw [if_pos hc] at h
    refine fhW.blk fhPM fhLL hΓ [(.iconst (-1), -1)] (pc' := 116) (lv' := [(1, .int v1), (3, .int v3), (4, .int v4), (5, .int v5)]) (st' := [.int (-1 : Int32)]) (σ' := σ) (by decide +kernel) rfl rfl rfl ?_
    refine fhW.goto hΓ (off := 23) (tgt := 139) (by decide +kernel) ?_
    have e9 := Option.some.inj h
    subst e9
    exact fhW.iret hΓ (by decide +kernel) hk
set_option maxRecDepth 100000 in
set_option maxHeartbeats 4000000 in
theorem L_X12_tells_98 {Γ : fhX} (hΓ : fhOk fhYM 12 cX12_tells 9 (some .int) Γ) (hd : 3 ≤ fhD Γ) (v1 : Int32) (v2 : Int32) (v3 : Int32) (v4 : Int32) (v5 : Int32) (v6 : Int32) (v7 : Int32)  (σ : fhM) (o : (Int32 × Int32 × Int32 × Int32) ⊕ ((Int32 × Int32 × Int32 × Int32) ⊕ (Int32))) (h : f_X12_tells_98 v1 v2 v3 v4 v5 v6 v7 σ = some o) (hk : (fhK (fun x => fhW fhYM Γ 52 [(0, .ref 0), (1, .int v1), (2, .int v2), (3, .int x.1), (4, .int x.2.1), (5, .int x.2.2.1), (6, .int v6), (7, .int x.2.2.2)] [] σ) (fhK (fun x => fhW fhYM Γ 38 [(0, .ref 0), (1, .int v1), (2, .int v2), (3, .int x.1), (4, .int x.2.1), (5, .int x.2.2.1), (6, .int x.2.2.2)] [] σ) (fun o => fhRet Γ (some (.int o)) σ))) o) : fhW fhYM Γ 98 [(0, .ref 0), (1, .int v1), (2, .int v2), (3, .int v3), (4, .int v4), (5, .int v5), (6, .int v6), (7, .int v7)] [] σ := by
  unfold f_X12_tells_98 at h
  refine fhW.blk fhPM fhLL hΓ [(.iinc 7 1, 1)] (pc' := 101) (lv' := [(7, .int (v7 + (1 : Int32))), (0, .ref 0), (1, .int v1), (2, .int v2), (3, .int v3), (4, .int v4), (5, .int v5), (6, .int v6)]) (st' := []) (σ' := σ) (by decide +kernel) rfl rfl rfl ?_
  refine fhW.goto hΓ (off := (-49)) (tgt := 52) (by decide +kernel) ?_
  refine fhW.sub (lv' := [(0, .ref 0), (1, .int v1), (2, .int v2), (3, .int v3), (4, .int v4), (5, .int v5), (6, .int v6), (7, .int (v7 + (1 : Int32)))]) [1, 2, 3, 4, 5, 6, 7, 0] rfl ?_
  have e9 := Option.some.inj h
  subst e9
  exact hk
set_option maxRecDepth 100000 in
set_option maxHeartbeats 4000000 in
theorem L_X12_tells_87 {Γ : fhX} (hΓ : fhOk fhYM 12 cX12_tells 9 (some .int) Γ) (hd : 3 ≤ fhD Γ) (v1 : Int32) (v2 : Int32) (v6 : Int32) (v7 : Int32) (v8 : Int32)  (σ : fhM) (o : (Int32 × Int32 × Int32 × Int32) ⊕ ((Int32 × Int32 × Int32 × Int32) ⊕ (Int32))) (h : f_X12_tells_87 v1 v2 v6 v7 v8 σ = some o) (hk : (fhK (fun x => fhW fhYM Γ 52 [(0, .ref 0), (1, .int v1), (2, .int v2), (3, .int x.1), (4, .int x.2.1), (5, .int x.2.2.1), (6, .int v6), (7, .int x.2.2.2)] [] σ) (fhK (fun x => fhW fhYM Γ 38 [(0, .ref 0), (1, .int v1), (2, .int v2), (3, .int x.1), (4, .int x.2.1), (5, .int x.2.2.1), (6, .int x.2.2.2)] [] σ) (fun o => fhRet Γ (some (.int o)) σ))) o) : fhW fhYM Γ 87 [(0, .ref 0), (1, .int v1), (2, .int v2), (6, .int v6), (7, .int v7), (8, .int v8)] [] σ := by
  unfold f_X12_tells_87 at h
  refine fhW.blk fhPM fhLL hΓ [(.iload 6, 0), (.istore_n 3, 0), (.iload 7, 0), (.istore 4, 0), (.iload 8, 0), (.istore 5, 0)] (pc' := 98) (lv' := [(5, .int v8), (4, .int v7), (3, .int v6), (0, .ref 0), (1, .int v1), (2, .int v2), (6, .int v6), (7, .int v7), (8, .int v8)]) (st' := []) (σ' := σ) (by decide +kernel) rfl rfl rfl ?_
  refine fhW.sub (lv' := [(0, .ref 0), (1, .int v1), (2, .int v2), (3, .int v6), (4, .int v7), (5, .int v8), (6, .int v6), (7, .int v7)]) [3, 4, 5, 2, 1, 0, 6, 7] rfl ?_
  exact L_X12_tells_98 hΓ hd v1 v2 v6 v7 v8 v6 v7 σ _ h hk
set_option maxRecDepth 100000 in
set_option maxHeartbeats 4000000 in
theorem L_X12_tells_52 {Γ : fhX} (hΓ : fhOk fhYM 12 cX12_tells 9 (some .int) Γ) (hd : 3 ≤ fhD Γ) (v1 : Int32) (v2 : Int32) (v3 : Int32) (v4 : Int32) (v5 : Int32) (v6 : Int32) (v7 : Int32)  (σ : fhM) (o : (Int32 × Int32 × Int32 × Int32) ⊕ ((Int32 × Int32 × Int32 × Int32) ⊕ (Int32))) (h : f_X12_tells_52 v1 v2 v3 v4 v5 v6 v7 σ = some o) (hk : (fhK (fun x => fhW fhYM Γ 52 [(0, .ref 0), (1, .int v1), (2, .int v2), (3, .int x.1), (4, .int x.2.1), (5, .int x.2.2.1), (6, .int v6), (7, .int x.2.2.2)] [] σ) (fhK (fun x => fhW fhYM Γ 38 [(0, .ref 0), (1, .int v1), (2, .int v2), (3, .int x.1), (4, .int x.2.1), (5, .int x.2.2.1), (6, .int x.2.2.2)] [] σ) (fun o => fhRet Γ (some (.int o)) σ))) o) : fhW fhYM Γ 52 [(0, .ref 0), (1, .int v1), (2, .int v2), (3, .int v3), (4, .int v4), (5, .int v5), (6, .int v6), (7, .int v7)] [] σ := by
  unfold f_X12_tells_52 at h
  refine fhW.blk fhPM fhLL hΓ [(.iload 7, 0), (.aload_n 0, 0)] (pc' := 55) (lv' := [(0, .ref 0), (1, .int v1), (2, .int v2), (3, .int v3), (4, .int v4), (5, .int v5), (6, .int v6), (7, .int v7)]) (st' := [.ref 0, .int v7]) (σ' := σ) (by decide +kernel) rfl rfl rfl ?_
  refine fhW.callv hΓ mvX12_guestMany ml_12_423 (t := 0) (ci := 12) (av := []) (rest := [.int v7]) (r := (some (.int (f_X12_guestMany σ)))) (σ' := σ) (T_X12_guestMany (E := fhEn Γ) (d := fhD Γ - 1) (by omega) σ) (by omega) (by decide +kernel) rfl rfl rfl (Nat.le_of_ble_eq_true rfl) rfl ?_
  show fhW fhYM Γ 58 [(0, .ref 0), (1, .int v1), (2, .int v2), (3, .int v3), (4, .int v4), (5, .int v5), (6, .int v6), (7, .int v7)] [.int (f_X12_guestMany σ), .int v7] σ
  refine fhW.i_ge hΓ (tgt := 104) (show fhbk _ _ (.if_icmp .ge (46)) _ = true by decide +kernel) (fun hc => ?_) (fun hc => ?_)
  · rw [if_pos hc] at h
    refine fhW.blk fhPM fhLL hΓ [(.iinc 6 1, 1)] (pc' := 107) (lv' := [(6, .int (v6 + (1 : Int32))), (0, .ref 0), (1, .int v1), (2, .int v2), (3, .int v3), (4, .int v4), (5, .int v5), (7, .int v7)]) (st' := []) (σ' := σ) (by decide +kernel) rfl rfl rfl ?_
    refine fhW.goto hΓ (off := (-69)) (tgt := 38) (by decide +kernel) ?_
    refine fhW.sub (lv' := [(0, .ref 0), (1, .int v1), (2, .int v2), (3, .int v3), (4, .int v4), (5, .int v5), (6, .int (v6 + (1 : Int32)))]) [1, 2, 3, 4, 5, 6, 0] rfl ?_
    have e9 := Option.some.inj h
    subst e9
    exact hk
  · rw [if_neg hc] at h
    refine fhW.blk fhPM fhLL hΓ [(.aload_n 0, 0), (.iload 6, 0), (.iload 7, 0), (.iload_n 2, 0)] (pc' := 67) (lv' := [(0, .ref 0), (1, .int v1), (2, .int v2), (3, .int v3), (4, .int v4), (5, .int v5), (6, .int v6), (7, .int v7)]) (st' := [.int v2, .int v7, .int v6, .ref 0]) (σ' := σ) (by decide +kernel) rfl rfl rfl ?_
    obtain ⟨q2, hb1, h⟩ := Option.bind_eq_some_iff.mp h
    refine fhW.callv hΓ mvX12_mostAlike ml_12_557 (t := 0) (ci := 12) (av := [.int v6, .int v7, .int v2]) (rest := []) (r := (some (.int q2))) (σ' := σ) (T_X12_mostAlike (E := fhEn Γ) (d := fhD Γ - 1) (by omega) v6 v7 v2 σ hb1) (by omega) (by decide +kernel) rfl rfl rfl (Nat.le_of_ble_eq_true rfl) rfl ?_
    show fhW fhYM Γ 70 [(0, .ref 0), (1, .int v1), (2, .int v2), (3, .int v3), (4, .int v4), (5, .int v5), (6, .int v6), (7, .int v7)] [.int q2] σ
    refine fhW.blk fhPM fhLL hΓ [(.istore 8, 0), (.iload_n 3, 0), (.iconst (-1), -1)] (pc' := 74) (lv' := [(8, .int q2), (0, .ref 0), (1, .int v1), (2, .int v2), (3, .int v3), (4, .int v4), (5, .int v5), (6, .int v6), (7, .int v7)]) (st' := [.int (-1 : Int32), .int v3]) (σ' := σ) (by decide +kernel) rfl rfl rfl ?_
    refine fhW.i_eq hΓ (tgt := 87) (show fhbk _ _ (.if_icmp .eq (13)) _ = true by decide +kernel) (fun hc => ?_) (fun hc => ?_)
    · rw [if_pos hc] at h
      refine fhW.sub (lv' := [(0, .ref 0), (1, .int v1), (2, .int v2), (6, .int v6), (7, .int v7), (8, .int q2)]) [1, 2, 3, 7, 8, 0] rfl ?_
      exact L_X12_tells_87 hΓ hd v1 v2 v6 v7 q2 σ _ h hk
    · rw [if_neg hc] at h
      refine fhW.blk fhPM fhLL hΓ [(.iload 8, 0), (.iload 5, 0)] (pc' := 81) (lv' := [(8, .int q2), (0, .ref 0), (1, .int v1), (2, .int v2), (3, .int v3), (4, .int v4), (5, .int v5), (6, .int v6), (7, .int v7)]) (st' := [.int v5, .int q2]) (σ' := σ) (by decide +kernel) rfl rfl rfl ?_
      refine fhW.i_lt hΓ (tgt := 87) (show fhbk _ _ (.if_icmp .lt (6)) _ = true by decide +kernel) (fun hc => ?_) (fun hc => ?_)
      · rw [if_pos hc] at h
        refine fhW.sub (lv' := [(0, .ref 0), (1, .int v1), (2, .int v2), (6, .int v6), (7, .int v7), (8, .int q2)]) [1, 2, 3, 7, 8, 0] rfl ?_
        exact L_X12_tells_87 hΓ hd v1 v2 v6 v7 q2 σ _ h hk
      · rw [if_neg hc] at h
        refine fhW.goto hΓ (off := 14) (tgt := 98) (by decide +kernel) ?_
        refine fhW.sub (lv' := [(0, .ref 0), (1, .int v1), (2, .int v2), (3, .int v3), (4, .int v4), (5, .int v5), (6, .int v6), (7, .int v7)]) [1, 2, 3, 4, 5, 6, 7, 8] rfl ?_
        exact L_X12_tells_98 hΓ hd v1 v2 v3 v4 v5 v6 v7 σ _ h hk
set_option maxRecDepth 100000 in
set_option maxHeartbeats 4000000 in
theorem L_X12_tells_38 {Γ : fhX} (hΓ : fhOk fhYM 12 cX12_tells 9 (some .int) Γ) (hd : 3 ≤ fhD Γ) (v1 : Int32) (v2 : Int32) (v3 : Int32) (v4 : Int32) (v5 : Int32) (v6 : Int32)  (σ : fhM) (o : (Int32 × Int32 × Int32 × Int32) ⊕ (Int32)) (h : f_X12_tells_38 v1 v2 v3 v4 v5 v6 σ = some o) (hk : (fhK (fun x => fhW fhYM Γ 38 [(0, .ref 0), (1, .int v1), (2, .int v2), (3, .int x.1), (4, .int x.2.1), (5, .int x.2.2.1), (6, .int x.2.2.2)] [] σ) (fun o => fhRet Γ (some (.int o)) σ)) o) : fhW fhYM Γ 38 [(0, .ref 0), (1, .int v1), (2, .int v2), (3, .int v3), (4, .int v4), (5, .int v5), (6, .int v6)] [] σ := by
  unfold f_X12_tells_38 at h
  refine fhW.blk fhPM fhLL hΓ [(.iload 6, 0), (.bipush 15, 15)] (pc' := 42) (lv' := [(0, .ref 0), (1, .int v1), (2, .int v2), (3, .int v3), (4, .int v4), (5, .int v5), (6, .int v6)]) (st' := [.int (15 : Int32), .int v6]) (σ' := σ) (by decide +kernel) rfl rfl rfl ?_
  refine fhW.i_gt hΓ (tgt := 110) (show fhbk _ _ (.if_icmp .gt (68)) _ = true by decide +kernel) (fun hc => ?_) (fun hc => ?_)
  · rw [if_pos hc] at h
    refine fhW.sub (lv' := [(1, .int v1), (3, .int v3), (4, .int v4), (5, .int v5)]) [1, 3, 4, 5] rfl ?_
    obtain ⟨z1, hz, e1⟩ := Option.map_eq_some_iff.mp h
    clear h
    subst e1
    have h := hz
    have hk : (fun o => fhRet Γ (some (.int o)) σ) z1 := hk
    exact L_X12_tells_110 hΓ hd v1 v3 v4 v5 σ _ h hk
  · rw [if_neg hc] at h
    refine fhW.blk fhPM fhLL hΓ [(.iload_n 2, 0)] (pc' := 46) (lv' := [(0, .ref 0), (1, .int v1), (2, .int v2), (3, .int v3), (4, .int v4), (5, .int v5), (6, .int v6)]) (st' := [.int v2]) (σ' := σ) (by decide +kernel) rfl rfl rfl ?_
    refine fhW.z_le hΓ (tgt := 110) (show fhbk _ _ (.ifCond .le (64)) _ = true by decide +kernel) (fun hc => ?_) (fun hc => ?_)
    · rw [if_pos hc] at h
      refine fhW.sub (lv' := [(1, .int v1), (3, .int v3), (4, .int v4), (5, .int v5)]) [1, 3, 4, 5] rfl ?_
      obtain ⟨z2, hz, e2⟩ := Option.map_eq_some_iff.mp h
      clear h
      subst e2
      have h := hz
      have hk : (fun o => fhRet Γ (some (.int o)) σ) z2 := hk
      exact L_X12_tells_110 hΓ hd v1 v3 v4 v5 σ _ h hk
    · rw [if_neg hc] at h
      refine fhW.blk fhPM fhLL hΓ [(.iconst 0, 0), (.istore 7, 0)] (pc' := 52) (lv' := [(7, .int (0 : Int32)), (0, .ref 0), (1, .int v1), (2, .int v2), (3, .int v3), (4, .int v4), (5, .int v5), (6, .int v6)]) (st' := []) (σ' := σ) (by decide +kernel) rfl rfl rfl ?_
      refine fhW.sub (lv' := [(0, .ref 0), (1, .int v1), (2, .int v2), (3, .int v3), (4, .int v4), (5, .int v5), (6, .int v6), (7, .int (0 : Int32))]) [1, 2, 3, 4, 5, 6, 7, 0] rfl ?_
      exact fhlp_ok (W := (fun x => fhW fhYM Γ 52 [(0, .ref 0), (1, .int v1), (2, .int v2), (3, .int x.1), (4, .int x.2.1), (5, .int x.2.2.1), (6, .int v6), (7, .int x.2.2.2)] [] σ)) (B := (fhK (fun x => fhW fhYM Γ 38 [(0, .ref 0), (1, .int v1), (2, .int v2), (3, .int x.1), (4, .int x.2.1), (5, .int x.2.2.1), (6, .int x.2.2.2)] [] σ) (fun o => fhRet Γ (some (.int o)) σ))) (fun x o h hk => L_X12_tells_52 hΓ hd v1 v2 x.1 x.2.1 x.2.2.1 v6 x.2.2.2 σ o h hk) (v3, v4, v5, (0 : Int32)) _ h hk
set_option maxRecDepth 100000 in
set_option maxHeartbeats 4000000 in
theorem L_X12_tells_E {Γ : fhX} (hΓ : fhOk fhYM 12 cX12_tells 9 (some .int) Γ) (hd : 3 ≤ fhD Γ) (v1 : Int32)  (σ : fhM) (o : Int32) (h : f_X12_tells v1 σ = some o) (hk : (fun o => fhRet Γ (some (.int o)) σ) o) : fhW fhYM Γ 0 [(0, .ref 0), (1, .int v1)] [] σ := by
  unfold f_X12_tells at h
  refine fhW.blk fhPM fhLL hΓ [(.aload_n 0, 0), (.getfield 441, 0)] (pc' := 4) (lv' := [(0, .ref 0), (1, .int v1)]) (st' := [.int (σ.1 0 47)]) (σ' := σ) (by decide +kernel) rfl rfl rfl ?_
  refine fhW.z_eq hΓ (tgt := 19) (show fhbk _ _ (.ifCond .eq (15)) _ = true by decide +kernel) (fun hc => ?_) (fun hc => ?_)
  · rw [if_pos hc] at h
    refine fhW.blk fhPM fhLL hΓ [(.iconst (-1), -1)] (pc' := 20) (lv' := [(0, .ref 0), (1, .int v1)]) (st' := [.int (-1 : Int32)]) (σ' := σ) (by decide +kernel) rfl rfl rfl ?_
    have e9 := Option.some.inj h
    subst e9
    exact fhW.iret hΓ (by decide +kernel) hk
  · rw [if_neg hc] at h
    refine fhW.blk fhPM fhLL hΓ [(.iload_n 1, 0), (.i2l, 0), (.lconst 0, 0), (.ldc2_w 517, 0)] (pc' := 13) (lv' := [(0, .ref 0), (1, .int v1)]) (st' := [.long (2 : Int64), .long (0 : Int64), .long (Int32.toInt64 v1)]) (σ' := σ) (by decide +kernel) rfl rfl rfl ?_
    refine fhW.calls hΓ msX12_isIn ml_12_305 (av := [.long (Int32.toInt64 v1), .long (0 : Int64), .long (2 : Int64)]) (rest := []) (r := (some (.int (fhb (f_X12_isIn (Int32.toInt64 v1) (0 : Int64) (2 : Int64) σ))))) (σ' := σ) (T_X12_isIn (E := fhEn Γ) (d := fhD Γ - 1) (by omega) (Int32.toInt64 v1) (0 : Int64) (2 : Int64) σ) (by omega) (by decide +kernel) rfl (Nat.le_of_ble_eq_true rfl) rfl ?_
    show fhW fhYM Γ 16 [(0, .ref 0), (1, .int v1)] [.int (fhb (f_X12_isIn (Int32.toInt64 v1) (0 : Int64) (2 : Int64) σ))] σ
    refine fhW.b_ne hΓ (tgt := 21) (show fhbk _ _ (.ifCond .ne (5)) _ = true by decide +kernel) (fun hc => ?_) (fun hc => ?_)
    · rw [if_pos hc] at h
      refine fhW.blk fhPM fhLL hΓ [(.aload_n 0, 0), (.iconst (-1), -1)] (pc' := 23) (lv' := [(0, .ref 0), (1, .int v1)]) (st' := [.int (-1 : Int32), .ref 0]) (σ' := σ) (by decide +kernel) rfl rfl rfl ?_
      obtain ⟨q1, hb2, h⟩ := Option.bind_eq_some_iff.mp h
      refine fhW.callv hΓ mvX12_fits ml_12_554 (t := 0) (ci := 12) (av := [.int (-1 : Int32)]) (rest := []) (r := (some (.int q1))) (σ' := σ) (T_X12_fits (E := fhEn Γ) (d := fhD Γ - 1) (by omega) (-1 : Int32) σ hb2) (by omega) (by decide +kernel) rfl rfl rfl (Nat.le_of_ble_eq_true rfl) rfl ?_
      show fhW fhYM Γ 26 [(0, .ref 0), (1, .int v1)] [.int q1] σ
      refine fhW.blk fhPM fhLL hΓ [(.istore_n 2, 0), (.iconst (-1), -1), (.istore_n 3, 0), (.iconst (-1), -1), (.istore 4, 0), (.iconst 0, 0), (.istore 5, 0), (.iconst 0, 0), (.istore 6, 0)] (pc' := 38) (lv' := [(6, .int (0 : Int32)), (5, .int (0 : Int32)), (4, .int (-1 : Int32)), (3, .int (-1 : Int32)), (2, .int q1), (0, .ref 0), (1, .int v1)]) (st' := []) (σ' := σ) (by decide +kernel) rfl rfl rfl ?_
      refine fhW.sub (lv' := [(0, .ref 0), (1, .int v1), (2, .int q1), (3, .int (-1 : Int32)), (4, .int (-1 : Int32)), (5, .int (0 : Int32)), (6, .int (0 : Int32))]) [5, 6, 4, 3, 2, 1, 0] rfl ?_
      exact fhlp_ok (W := (fun x => fhW fhYM Γ 38 [(0, .ref 0), (1, .int v1), (2, .int q1), (3, .int x.1), (4, .int x.2.1), (5, .int x.2.2.1), (6, .int x.2.2.2)] [] σ)) (B := (fun o => fhRet Γ (some (.int o)) σ)) (fun x o h hk => L_X12_tells_38 hΓ hd v1 q1 x.1 x.2.1 x.2.2.1 x.2.2.2 σ o h hk) ((-1 : Int32), (-1 : Int32), (0 : Int32), (0 : Int32)) _ h hk
    · rw [if_neg hc] at h
      refine fhW.blk fhPM fhLL hΓ [(.iconst (-1), -1)] (pc' := 20) (lv' := [(0, .ref 0), (1, .int v1)]) (st' := [.int (-1 : Int32)]) (σ' := σ) (by decide +kernel) rfl rfl rfl ?_
      have e9 := Option.some.inj h
      subst e9
      exact fhW.iret hΓ (by decide +kernel) hk
set_option maxRecDepth 100000 in
theorem T_X12_tells {E : fhE} {d : Nat} (hd : 3 ≤ d) (v1 : Int32)  (σ : fhM) {o : Int32} (h : f_X12_tells v1 σ = some o) : fhC fhYM E d miX12_tells [.ref 0, .int v1] σ (some (.int o)) σ := by
  refine fhC.of (y := yX12_tells) (cc := cX12_tells) (nL := 9) (ret := (some .int)) 12 rfl (by decide +kernel) (Nat.le_of_ble_eq_true rfl) ?_
  intro Γ hΓ hR hD hEn
  subst hD; subst hEn
  exact L_X12_tells_E hΓ hd v1  σ _ h hR
set_option maxRecDepth 100000 in
set_option maxHeartbeats 4000000 in
theorem L_X12_keeps_15 {Γ : fhX} (hΓ : fhOk fhYM 12 cX12_keeps 2 none Γ) (hd : 0 ≤ fhD Γ) (v1 : Int32)  (σ : fhM) (o : (Int32 × fhM) ⊕ (fhM)) (h : f_X12_keeps_15 v1 σ = some o) (hk : (fhK (fun x => fhW fhYM Γ 15 [(0, .ref 0), (1, .int x.1)] [] x.2) (fun o => fhRet Γ none o)) o) : fhW fhYM Γ 15 [(0, .ref 0), (1, .int v1)] [] σ := by
  unfold f_X12_keeps_15 at h
  refine fhW.blk fhPM fhLL hΓ [(.iload_n 1, 0), (.sipush 1187, 1187)] (pc' := 19) (lv' := [(0, .ref 0), (1, .int v1)]) (st' := [.int (1187 : Int32), .int v1]) (σ' := σ) (by decide +kernel) rfl rfl rfl ?_
  refine fhW.i_ge hΓ (tgt := 49) (show fhbk _ _ (.if_icmp .ge (30)) _ = true by decide +kernel) (fun hc => ?_) (fun hc => ?_)
  · rw [if_pos hc] at h
    refine fhW.blk fhPM fhLL hΓ [(.aload_n 0, 0), (.getfield 454, 0), (.bipush 20, 20)] (pc' := 55) (lv' := [(0, .ref 0), (1, .int v1)]) (st' := [.int (20 : Int32), .int (σ.1 0 71)]) (σ' := σ) (by decide +kernel) rfl rfl rfl ?_
    refine fhW.i_ge hΓ (tgt := 68) (show fhbk _ _ (.if_icmp .ge (13)) _ = true by decide +kernel) (fun hc => ?_) (fun hc => ?_)
    · rw [if_pos hc] at h
      have e9 := Option.some.inj h
      subst e9
      exact fhW.vret hΓ (by decide +kernel) hk
    · rw [if_neg hc] at h
      refine fhW.blk fhPM fhLL hΓ [(.aload_n 0, 0), (.dup, 0), (.getfield 454, 0), (.iconst 1, 1), (.iadd, 0), (.putfield 454, 0)] (pc' := 68) (lv' := [(0, .ref 0), (1, .int v1)]) (st' := []) (σ' := (fhI σ 0 71 ((σ.1 0 71) + (1 : Int32)))) (by decide +kernel) rfl rfl rfl ?_
      have e9 := Option.some.inj h
      subst e9
      exact fhW.vret hΓ (by decide +kernel) hk
  · rw [if_neg hc] at h
    obtain ⟨hg1, h⟩ := fhif h
    refine fhW.blk fhPM fhLL hΓ [(.aload_n 0, 0), (.getfield 168, 0), (.sipush 1187, 1187), (.aload_n 0, 0), (.getfield 561, 0), (.imul, 0), (.iload_n 1, 0), (.iadd, 0), (.aload_n 0, 0), (.getfield 147, 0), (.iload_n 1, 0), (.iaload, 0), (.iastore, 0), (.iinc 1 1, 1)] (pc' := 46) (lv' := [(1, .int (v1 + (1 : Int32))), (0, .ref 0)]) (st' := []) (σ' := (fhI σ 51 (fhix (((1187 : Int32) * (σ.1 0 72)) + v1)) (σ.1 44 (fhix v1)))) (by decide +kernel) rfl rfl hg1 ?_
    refine fhW.goto hΓ (off := (-31)) (tgt := 15) (by decide +kernel) ?_
    refine fhW.sub (lv' := [(0, .ref 0), (1, .int (v1 + (1 : Int32)))]) [1, 0] rfl ?_
    have e9 := Option.some.inj h
    subst e9
    exact hk
set_option maxRecDepth 100000 in
set_option maxHeartbeats 4000000 in
theorem L_X12_keeps_E {Γ : fhX} (hΓ : fhOk fhYM 12 cX12_keeps 2 none Γ) (hd : 0 ≤ fhD Γ)   (σ : fhM) (o : fhM) (h : f_X12_keeps σ = some o) (hk : (fun o => fhRet Γ none o) o) : fhW fhYM Γ 0 [(0, .ref 0)] [] σ := by
  unfold f_X12_keeps at h
  refine fhW.blk fhPM fhLL hΓ [(.aload_n 0, 0), (.aload_n 0, 0), (.getfield 561, 0), (.iconst 1, 1), (.iadd, 0), (.bipush 20, 20), (.irem, 0), (.putfield 561, 0), (.iconst 0, 0), (.istore_n 1, 0)] (pc' := 15) (lv' := [(1, .int (0 : Int32)), (0, .ref 0)]) (st' := []) (σ' := (fhI σ 0 72 (fhrem ((σ.1 0 72) + (1 : Int32)) (20 : Int32)))) (by decide +kernel) rfl rfl rfl ?_
  refine fhW.sub (lv' := [(0, .ref 0), (1, .int (0 : Int32))]) [1, 0] rfl ?_
  exact fhlp_ok (W := (fun x => fhW fhYM Γ 15 [(0, .ref 0), (1, .int x.1)] [] x.2)) (B := (fun o => fhRet Γ none o)) (fun x o h hk => L_X12_keeps_15 hΓ hd x.1 x.2 o h hk) ((0 : Int32), (fhI σ 0 72 (fhrem ((σ.1 0 72) + (1 : Int32)) (20 : Int32)))) _ h hk
set_option maxRecDepth 100000 in
theorem T_X12_keeps {E : fhE} {d : Nat} (hd : 0 ≤ d)   (σ : fhM) {o : fhM} (h : f_X12_keeps σ = some o) : fhC fhYM E d miX12_keeps [.ref 0] σ none o := by
  refine fhC.of (y := yX12_keeps) (cc := cX12_keeps) (nL := 2) (ret := none) 12 rfl (by decide +kernel) (Nat.le_of_ble_eq_true rfl) ?_
  intro Γ hΓ hR hD hEn
  subst hD; subst hEn
  exact L_X12_keeps_E hΓ hd   σ _ h hR
set_option maxRecDepth 100000 in
set_option maxHeartbeats 4000000 in
theorem L_X12_undo_21 {Γ : fhX} (hΓ : fhOk fhYM 12 cX12_undo 2 (some .boolean) Γ) (hd : 0 ≤ fhD Γ) (v1 : Int32)  (σ : fhM) (o : (Int32 × fhM) ⊕ (Bool × fhM)) (h : f_X12_undo_21 v1 σ = some o) (hk : (fhK (fun x => fhW fhYM Γ 21 [(0, .ref 0), (1, .int x.1)] [] x.2) (fun o => fhRet Γ (some (.int (fhb o.1))) o.2)) o) : fhW fhYM Γ 21 [(0, .ref 0), (1, .int v1)] [] σ := by
  unfold f_X12_undo_21 at h
  refine fhW.blk fhPM fhLL hΓ [(.iload_n 1, 0), (.sipush 1187, 1187)] (pc' := 25) (lv' := [(0, .ref 0), (1, .int v1)]) (st' := [.int (1187 : Int32), .int v1]) (σ' := σ) (by decide +kernel) rfl rfl rfl ?_
  refine fhW.i_ge hΓ (tgt := 55) (show fhbk _ _ (.if_icmp .ge (30)) _ = true by decide +kernel) (fun hc => ?_) (fun hc => ?_)
  · rw [if_pos hc] at h
    refine fhW.blk fhPM fhLL hΓ [(.aload_n 0, 0), (.aload_n 0, 0), (.getfield 561, 0), (.bipush 20, 20), (.iadd, 0), (.iconst 1, 1), (.isub, 0), (.bipush 20, 20), (.irem, 0), (.putfield 561, 0), (.aload_n 0, 0), (.dup, 0), (.getfield 454, 0), (.iconst 1, 1), (.isub, 0), (.putfield 454, 0), (.iconst 1, 1)] (pc' := 82) (lv' := [(0, .ref 0), (1, .int v1)]) (st' := [.int (1 : Int32)]) (σ' := (fhI (fhI σ 0 72 (fhrem (((σ.1 0 72) + (20 : Int32)) - (1 : Int32)) (20 : Int32))) 0 71 ((σ.1 0 71) - (1 : Int32)))) (by decide +kernel) rfl rfl rfl ?_
    have e9 := Option.some.inj h
    subst e9
    exact fhW.zret (v := true) hΓ (by decide +kernel) hk
  · rw [if_neg hc] at h
    obtain ⟨hg1, h⟩ := fhif h
    refine fhW.blk fhPM fhLL hΓ [(.aload_n 0, 0), (.getfield 147, 0), (.iload_n 1, 0), (.aload_n 0, 0), (.getfield 168, 0), (.sipush 1187, 1187), (.aload_n 0, 0), (.getfield 561, 0), (.imul, 0), (.iload_n 1, 0), (.iadd, 0), (.iaload, 0), (.iastore, 0), (.iinc 1 1, 1)] (pc' := 52) (lv' := [(1, .int (v1 + (1 : Int32))), (0, .ref 0)]) (st' := []) (σ' := (fhI σ 44 (fhix v1) (σ.1 51 (fhix (((1187 : Int32) * (σ.1 0 72)) + v1))))) (by decide +kernel) rfl rfl hg1 ?_
    refine fhW.goto hΓ (off := (-31)) (tgt := 21) (by decide +kernel) ?_
    refine fhW.sub (lv' := [(0, .ref 0), (1, .int (v1 + (1 : Int32)))]) [1, 0] rfl ?_
    have e9 := Option.some.inj h
    subst e9
    exact hk
set_option maxRecDepth 100000 in
set_option maxHeartbeats 4000000 in
theorem L_X12_undo_E {Γ : fhX} (hΓ : fhOk fhYM 12 cX12_undo 2 (some .boolean) Γ) (hd : 0 ≤ fhD Γ)   (σ : fhM) (o : Bool × fhM) (h : f_X12_undo σ = some o) (hk : (fun o => fhRet Γ (some (.int (fhb o.1))) o.2) o) : fhW fhYM Γ 0 [(0, .ref 0)] [] σ := by
  unfold f_X12_undo at h
  refine fhW.blk fhPM fhLL hΓ [(.aload_n 0, 0), (.getfield 454, 0)] (pc' := 4) (lv' := [(0, .ref 0)]) (st' := [.int (σ.1 0 71)]) (σ' := σ) (by decide +kernel) rfl rfl rfl ?_
  refine fhW.z_ne hΓ (tgt := 19) (show fhbk _ _ (.ifCond .ne (15)) _ = true by decide +kernel) (fun hc => ?_) (fun hc => ?_)
  · rw [if_neg hc] at h
    refine fhW.blk fhPM fhLL hΓ [(.iconst 0, 0), (.istore_n 1, 0)] (pc' := 21) (lv' := [(1, .int (0 : Int32)), (0, .ref 0)]) (st' := []) (σ' := σ) (by decide +kernel) rfl rfl rfl ?_
    refine fhW.sub (lv' := [(0, .ref 0), (1, .int (0 : Int32))]) [1, 0] rfl ?_
    exact fhlp_ok (W := (fun x => fhW fhYM Γ 21 [(0, .ref 0), (1, .int x.1)] [] x.2)) (B := (fun o => fhRet Γ (some (.int (fhb o.1))) o.2)) (fun x o h hk => L_X12_undo_21 hΓ hd x.1 x.2 o h hk) ((0 : Int32), σ) _ h hk
  · rw [if_pos hc] at h
    refine fhW.blk fhPM fhLL hΓ [(.aload_n 0, 0), (.getfield 17, 0), (.iconst 4, 4), (.dup2, 0), (.iaload, 0), (.iconst 1, 1), (.iadd, 0), (.iastore, 0), (.iconst 0, 0)] (pc' := 18) (lv' := [(0, .ref 0)]) (st' := [.int (0 : Int32)]) (σ' := (fhI σ 2 4 ((σ.1 2 4) + (1 : Int32)))) (by decide +kernel) rfl rfl rfl ?_
    have e9 := Option.some.inj h
    subst e9
    exact fhW.zret (v := false) hΓ (by decide +kernel) hk
set_option maxRecDepth 100000 in
theorem T_X12_undo {E : fhE} {d : Nat} (hd : 0 ≤ d)   (σ : fhM) {o : Bool × fhM} (h : f_X12_undo σ = some o) : fhC fhYM E d miX12_undo [.ref 0] σ (some (.int (fhb o.1))) o.2 := by
  refine fhC.of (y := yX12_undo) (cc := cX12_undo) (nL := 2) (ret := (some .boolean)) 12 rfl (by decide +kernel) (Nat.le_of_ble_eq_true rfl) ?_
  intro Γ hΓ hR hD hEn
  subst hD; subst hEn
  exact L_X12_undo_E hΓ hd   σ _ h hR
set_option maxRecDepth 100000 in
set_option maxHeartbeats 4000000 in
theorem L_X12_isRefused_E {Γ : fhX} (hΓ : fhOk fhYM 12 cX12_isRefused 2 (some .boolean) Γ) (hd : 0 ≤ fhD Γ) (v1 : Int32)  (σ : fhM) (o : Bool × fhM) (h : f_X12_isRefused v1 σ = some o) (hk : (fun o => fhRet Γ (some (.int (fhb o.1))) o.2) o) : fhW fhYM Γ 0 [(0, .ref 0), (1, .int v1)] [] σ := by
  unfold f_X12_isRefused at h
  obtain ⟨hg1, h⟩ := fhif h
  refine fhW.blk fhPM fhLL hΓ [(.aload_n 0, 0), (.getfield 17, 0), (.iload_n 1, 0), (.dup2, 0), (.iaload, 0), (.iconst 1, 1), (.iadd, 0), (.iastore, 0), (.iconst 0, 0)] (pc' := 11) (lv' := [(0, .ref 0), (1, .int v1)]) (st' := [.int (0 : Int32)]) (σ' := (fhI σ 2 (fhix v1) ((σ.1 2 (fhix v1)) + (1 : Int32)))) (by decide +kernel) rfl rfl hg1 ?_
  have e9 := Option.some.inj h
  subst e9
  exact fhW.zret (v := false) hΓ (by decide +kernel) hk
set_option maxRecDepth 100000 in
theorem T_X12_isRefused {E : fhE} {d : Nat} (hd : 0 ≤ d) (v1 : Int32)  (σ : fhM) {o : Bool × fhM} (h : f_X12_isRefused v1 σ = some o) : fhC fhYM E d miX12_isRefused [.ref 0, .int v1] σ (some (.int (fhb o.1))) o.2 := by
  refine fhC.of (y := yX12_isRefused) (cc := cX12_isRefused) (nL := 2) (ret := (some .boolean)) 12 rfl (by decide +kernel) (Nat.le_of_ble_eq_true rfl) ?_
  intro Γ hΓ hR hD hEn
  subst hD; subst hEn
  exact L_X12_isRefused_E hΓ hd v1  σ _ h hR
set_option maxRecDepth 100000 in
set_option maxHeartbeats 4000000 in
theorem L_X12_round_19 {Γ : fhX} (hΓ : fhOk fhYM 12 cX12_round 1 (some .int) Γ) (hd : 5 ≤ fhD Γ)   (σ : fhM) (o : Int32 × fhM) (h : f_X12_round_19 σ = some o) (hk : (fun o => fhRet Γ (some (.int o.1)) o.2) o) : fhW fhYM Γ 19 [(0, .ref 0)] [] σ := by
  unfold f_X12_round_19 at h
  refine fhW.blk fhPM fhLL hΓ [(.aload_n 0, 0), (.iconst 3, 3)] (pc' := 21) (lv' := [(0, .ref 0)]) (st' := [.int (3 : Int32), .ref 0]) (σ' := σ) (by decide +kernel) rfl rfl rfl ?_
  obtain ⟨q3, hb1, h⟩ := Option.bind_eq_some_iff.mp h
  refine fhW.callv hΓ mvX12_refuses ml_12_416 (t := 0) (ci := 12) (av := [.int (3 : Int32)]) (rest := []) (r := (some (.int q3.1))) (σ' := q3.2) (T_X12_refuses (E := fhEn Γ) (d := fhD Γ - 1) (by omega) (3 : Int32) σ hb1) (by omega) (by decide +kernel) rfl rfl rfl (Nat.le_of_ble_eq_true rfl) rfl ?_
  show fhW fhYM Γ 24 [(0, .ref 0)] [.int q3.1] q3.2
  have e9 := Option.some.inj h
  subst e9
  exact fhW.iret hΓ (by decide +kernel) hk
set_option maxRecDepth 100000 in
set_option maxHeartbeats 4000000 in
theorem L_X12_round_E {Γ : fhX} (hΓ : fhOk fhYM 12 cX12_round 1 (some .int) Γ) (hd : 5 ≤ fhD Γ)   (σ : fhM) (o : Int32 × fhM) (h : f_X12_round σ = some o) (hk : (fun o => fhRet Γ (some (.int o.1)) o.2) o) : fhW fhYM Γ 0 [(0, .ref 0)] [] σ := by
  unfold f_X12_round at h
  refine fhW.blk fhPM fhLL hΓ [(.aload_n 0, 0), (.getfield 441, 0)] (pc' := 4) (lv' := [(0, .ref 0)]) (st' := [.int (σ.1 0 47)]) (σ' := σ) (by decide +kernel) rfl rfl rfl ?_
  refine fhW.z_eq hΓ (tgt := 19) (show fhbk _ _ (.ifCond .eq (15)) _ = true by decide +kernel) (fun hc => ?_) (fun hc => ?_)
  · rw [if_pos hc] at h
    refine fhW.sub (lv' := [(0, .ref 0)]) [0] rfl ?_
    exact L_X12_round_19 hΓ hd σ _ h hk
  · rw [if_neg hc] at h
    refine fhW.blk fhPM fhLL hΓ [(.aload_n 0, 0), (.getfield 147, 0), (.iconst 0, 0), (.iaload, 0), (.sipush 999, 999)] (pc' := 16) (lv' := [(0, .ref 0)]) (st' := [.int (999 : Int32), .int (σ.1 44 0)]) (σ' := σ) (by decide +kernel) rfl rfl rfl ?_
    refine fhW.i_ne hΓ (tgt := 25) (show fhbk _ _ (.if_icmp .ne (9)) _ = true by decide +kernel) (fun hc => ?_) (fun hc => ?_)
    · rw [if_neg hc] at h
      refine fhW.blk fhPM fhLL hΓ [(.aload_n 0, 0)] (pc' := 26) (lv' := [(0, .ref 0)]) (st' := [.ref 0]) (σ' := σ) (by decide +kernel) rfl rfl rfl ?_
      obtain ⟨q1, hb2, h⟩ := Option.bind_eq_some_iff.mp h
      refine fhW.callv hΓ mvX12_keeps ml_12_564 (t := 0) (ci := 12) (av := []) (rest := []) (r := none) (σ' := q1) (T_X12_keeps (E := fhEn Γ) (d := fhD Γ - 1) (by omega) σ hb2) (by omega) (by decide +kernel) rfl rfl rfl (Nat.le_of_ble_eq_true rfl) rfl ?_
      show fhW fhYM Γ 29 [(0, .ref 0)] [] q1
      refine fhW.blk fhPM fhLL hΓ [(.aload_n 0, 0), (.bipush 31, 31)] (pc' := 32) (lv' := [(0, .ref 0)]) (st' := [.int (31 : Int32), .ref 0]) (σ' := q1) (by decide +kernel) rfl rfl rfl ?_
      obtain ⟨q2, hb3, h⟩ := Option.bind_eq_some_iff.mp h
      refine fhW.callv hΓ mvX12_roundGoes ml_12_533 (t := 0) (ci := 12) (av := [.int (31 : Int32)]) (rest := []) (r := (some (.int q2.1))) (σ' := q2.2) (T_X12_roundGoes (E := fhEn Γ) (d := fhD Γ - 1) (by omega) (31 : Int32) q1 hb3) (by omega) (by decide +kernel) rfl rfl rfl (Nat.le_of_ble_eq_true rfl) rfl ?_
      show fhW fhYM Γ 35 [(0, .ref 0)] [.int q2.1] q2.2
      have e9 := Option.some.inj h
      subst e9
      exact fhW.iret hΓ (by decide +kernel) hk
    · rw [if_pos hc] at h
      refine fhW.sub (lv' := [(0, .ref 0)]) [0] rfl ?_
      exact L_X12_round_19 hΓ hd σ _ h hk
set_option maxRecDepth 100000 in
theorem T_X12_round {E : fhE} {d : Nat} (hd : 5 ≤ d)   (σ : fhM) {o : Int32 × fhM} (h : f_X12_round σ = some o) : fhC fhYM E d miX12_round [.ref 0] σ (some (.int o.1)) o.2 := by
  refine fhC.of (y := yX12_round) (cc := cX12_round) (nL := 1) (ret := (some .int)) 12 rfl (by decide +kernel) (Nat.le_of_ble_eq_true rfl) ?_
  intro Γ hΓ hR hD hEn
  subst hD; subst hEn
  exact L_X12_round_E hΓ hd   σ _ h hR
set_option maxRecDepth 100000 in
set_option maxHeartbeats 4000000 in
theorem L_X12_says_E {Γ : fhX} (hΓ : fhOk fhYM 12 cX12_says 3 (some .int) Γ) (hd : 4 ≤ fhD Γ) (v1 : Int32)  (σ : fhM) (o : Int32 × fhM) (h : f_X12_says v1 σ = some o) (hk : (fun o => fhRet Γ (some (.int o.1)) o.2) o) : fhW fhYM Γ 0 [(0, .ref 0), (1, .int v1)] [] σ := by
  unfold f_X12_says at h
  refine fhW.blk fhPM fhLL hΓ [(.aload_n 0, 0), (.iload_n 1, 0), (.i2l, 0)] (pc' := 3) (lv' := [(0, .ref 0), (1, .int v1)]) (st' := [.long (Int32.toInt64 v1), .ref 0]) (σ' := σ) (by decide +kernel) rfl rfl rfl ?_
  refine fhW.callv hΓ mvX12_isGuest ml_12_505 (t := 0) (ci := 12) (av := [.long (Int32.toInt64 v1)]) (rest := []) (r := (some (.int (fhb (f_X12_isGuest (Int32.toInt64 v1) σ))))) (σ' := σ) (T_X12_isGuest (E := fhEn Γ) (d := fhD Γ - 1) (by omega) (Int32.toInt64 v1) σ) (by omega) (by decide +kernel) rfl rfl rfl (Nat.le_of_ble_eq_true rfl) rfl ?_
  show fhW fhYM Γ 6 [(0, .ref 0), (1, .int v1)] [.int (fhb (f_X12_isGuest (Int32.toInt64 v1) σ))] σ
  refine fhW.b_ne hΓ (tgt := 15) (show fhbk _ _ (.ifCond .ne (9)) _ = true by decide +kernel) (fun hc => ?_) (fun hc => ?_)
  · rw [if_pos hc] at h
    refine fhW.blk fhPM fhLL hΓ [(.aload_n 0, 0)] (pc' := 16) (lv' := [(0, .ref 0), (1, .int v1)]) (st' := [.ref 0]) (σ' := σ) (by decide +kernel) rfl rfl rfl ?_
    obtain ⟨q1, hb1, h⟩ := Option.bind_eq_some_iff.mp h
    refine fhW.callv hΓ mvX12_keeps ml_12_564 (t := 0) (ci := 12) (av := []) (rest := []) (r := none) (σ' := q1) (T_X12_keeps (E := fhEn Γ) (d := fhD Γ - 1) (by omega) σ hb1) (by omega) (by decide +kernel) rfl rfl rfl (Nat.le_of_ble_eq_true rfl) rfl ?_
    show fhW fhYM Γ 19 [(0, .ref 0), (1, .int v1)] [] q1
    refine fhW.blk fhPM fhLL hΓ [(.aload_n 0, 0), (.iconst 1, 1), (.iload_n 1, 0), (.ishl, 0)] (pc' := 23) (lv' := [(0, .ref 0), (1, .int v1)]) (st' := [.int ((1 : Int32) <<< (v1 &&& 31)), .ref 0]) (σ' := q1) (by decide +kernel) rfl rfl rfl ?_
    obtain ⟨q2, hb2, h⟩ := Option.bind_eq_some_iff.mp h
    refine fhW.callv hΓ mvX12_leavesAs ml_12_493 (t := 0) (ci := 12) (av := [.int ((1 : Int32) <<< (v1 &&& 31))]) (rest := []) (r := (some (.int q2.1))) (σ' := q2.2) (T_X12_leavesAs (E := fhEn Γ) (d := fhD Γ - 1) (by omega) ((1 : Int32) <<< (v1 &&& 31)) q1 hb2) (by omega) (by decide +kernel) rfl rfl rfl (Nat.le_of_ble_eq_true rfl) rfl ?_
    show fhW fhYM Γ 26 [(0, .ref 0), (1, .int v1)] [.int q2.1] q2.2
    refine fhW.blk fhPM fhLL hΓ [(.iload_n 1, 0), (.ishr, 0), (.istore_n 2, 0), (.aload_n 0, 0), (.iconst 1, 1), (.iload_n 1, 0), (.iload_n 2, 0)] (pc' := 33) (lv' := [(2, .int (q2.1 >>> (v1 &&& 31))), (0, .ref 0), (1, .int v1)]) (st' := [.int (q2.1 >>> (v1 &&& 31)), .int v1, .int (1 : Int32), .ref 0]) (σ' := q2.2) (by decide +kernel) rfl rfl rfl ?_
    obtain ⟨q3, hb3, h⟩ := Option.bind_eq_some_iff.mp h
    refine fhW.callv hΓ mvX12_isKept ml_12_496 (t := 0) (ci := 12) (av := [.int (1 : Int32), .int v1, .int (q2.1 >>> (v1 &&& 31))]) (rest := []) (r := none) (σ' := q3) (T_X12_isKept (E := fhEn Γ) (d := fhD Γ - 1) (by omega) (1 : Int32) v1 (q2.1 >>> (v1 &&& 31)) q2.2 hb3) (by omega) (by decide +kernel) rfl rfl rfl (Nat.le_of_ble_eq_true rfl) rfl ?_
    show fhW fhYM Γ 36 [(2, .int (q2.1 >>> (v1 &&& 31))), (0, .ref 0), (1, .int v1)] [] q3
    refine fhW.blk fhPM fhLL hΓ [(.iload_n 2, 0)] (pc' := 37) (lv' := [(2, .int (q2.1 >>> (v1 &&& 31))), (0, .ref 0), (1, .int v1)]) (st' := [.int (q2.1 >>> (v1 &&& 31))]) (σ' := q3) (by decide +kernel) rfl rfl rfl ?_
    have e9 := Option.some.inj h
    subst e9
    exact fhW.iret hΓ (by decide +kernel) hk
  · rw [if_neg hc] at h
    refine fhW.blk fhPM fhLL hΓ [(.aload_n 0, 0), (.iconst 2, 2)] (pc' := 11) (lv' := [(0, .ref 0), (1, .int v1)]) (st' := [.int (2 : Int32), .ref 0]) (σ' := σ) (by decide +kernel) rfl rfl rfl ?_
    obtain ⟨q4, hb4, h⟩ := Option.bind_eq_some_iff.mp h
    refine fhW.callv hΓ mvX12_refuses ml_12_416 (t := 0) (ci := 12) (av := [.int (2 : Int32)]) (rest := []) (r := (some (.int q4.1))) (σ' := q4.2) (T_X12_refuses (E := fhEn Γ) (d := fhD Γ - 1) (by omega) (2 : Int32) σ hb4) (by omega) (by decide +kernel) rfl rfl rfl (Nat.le_of_ble_eq_true rfl) rfl ?_
    show fhW fhYM Γ 14 [(0, .ref 0), (1, .int v1)] [.int q4.1] q4.2
    have e9 := Option.some.inj h
    subst e9
    exact fhW.iret hΓ (by decide +kernel) hk
set_option maxRecDepth 100000 in
theorem T_X12_says {E : fhE} {d : Nat} (hd : 4 ≤ d) (v1 : Int32)  (σ : fhM) {o : Int32 × fhM} (h : f_X12_says v1 σ = some o) : fhC fhYM E d miX12_says [.ref 0, .int v1] σ (some (.int o.1)) o.2 := by
  refine fhC.of (y := yX12_says) (cc := cX12_says) (nL := 3) (ret := (some .int)) 12 rfl (by decide +kernel) (Nat.le_of_ble_eq_true rfl) ?_
  intro Γ hΓ hR hD hEn
  subst hD; subst hEn
  exact L_X12_says_E hΓ hd v1  σ _ h hR
set_option maxRecDepth 100000 in
set_option maxHeartbeats 4000000 in
theorem L_X12_tell_77 {Γ : fhX} (hΓ : fhOk fhYM 12 cX12_tell 4 (some .int) Γ) (hd : 2 ≤ fhD Γ) (v2 : Int32) (s0 : Int32) (s1 : Int32) (s2 : Int32)  (σ : fhM) (o : Int32 × fhM) (h : f_X12_tell_77 v2 s0 s1 s2 σ = some o) (hk : (fun o => fhRet Γ (some (.int o.1)) o.2) o) : fhW fhYM Γ 77 [(2, .int v2)] [.int s0, .int s1, .int s2, .ref 0] σ := by
  unfold f_X12_tell_77 at h
  obtain ⟨q5, hb1, h⟩ := Option.bind_eq_some_iff.mp h
  refine fhW.callv hΓ mvX12_isKept ml_12_496 (t := 0) (ci := 12) (av := [.int s2, .int s1, .int s0]) (rest := []) (r := none) (σ' := q5) (T_X12_isKept (E := fhEn Γ) (d := fhD Γ - 1) (by omega) s2 s1 s0 σ hb1) (by omega) (by decide +kernel) rfl rfl rfl (Nat.le_of_ble_eq_true rfl) rfl ?_
  show fhW fhYM Γ 80 [(2, .int v2)] [] q5
  refine fhW.blk fhPM fhLL hΓ [(.iload_n 2, 0)] (pc' := 81) (lv' := [(2, .int v2)]) (st' := [.int v2]) (σ' := q5) (by decide +kernel) rfl rfl rfl ?_
  refine fhW.z_eq hΓ (tgt := 88) (show fhbk _ _ (.ifCond .eq (7)) _ = true by decide +kernel) (fun hc => ?_) (fun hc => ?_)
  · rw [if_pos hc] at h
    refine fhW.blk fhPM fhLL hΓ [(.iconst 0, 0)] (pc' := 89) (lv' := [(2, .int v2)]) (st' := [.int (0 : Int32)]) (σ' := q5) (by decide +kernel) rfl rfl rfl ?_
    have e9 := Option.some.inj h
    subst e9
    exact fhW.iret hΓ (by decide +kernel) hk
  · rw [if_neg hc] at h
    refine fhW.blk fhPM fhLL hΓ [(.iconst 1, 1)] (pc' := 85) (lv' := [(2, .int v2)]) (st' := [.int (1 : Int32)]) (σ' := q5) (by decide +kernel) rfl rfl rfl ?_
    refine fhW.goto hΓ (off := 4) (tgt := 89) (by decide +kernel) ?_
    have e9 := Option.some.inj h
    subst e9
    exact fhW.iret hΓ (by decide +kernel) hk
set_option maxRecDepth 100000 in
set_option maxHeartbeats 4000000 in
theorem L_X12_tell_59 {Γ : fhX} (hΓ : fhOk fhYM 12 cX12_tell 4 (some .int) Γ) (hd : 2 ≤ fhD Γ) (v1 : Int32) (v2 : Int32) (v3 : Int32)  (σ : fhM) (o : (Int32 × fhM) ⊕ (Int32 × fhM)) (h : f_X12_tell_59 v1 v2 v3 σ = some o) (hk : (fhK (fun x => fhW fhYM Γ 32 [(0, .ref 0), (1, .int v1), (2, .int v2), (3, .int x.1)] [] x.2) (fun o => fhRet Γ (some (.int o.1)) o.2)) o) : fhW fhYM Γ 59 [(0, .ref 0), (1, .int v1), (2, .int v2), (3, .int v3)] [] σ := by
  unfold f_X12_tell_59 at h
  refine fhW.blk fhPM fhLL hΓ [(.iinc 3 1, 1)] (pc' := 62) (lv' := [(3, .int (v3 + (1 : Int32))), (0, .ref 0), (1, .int v1), (2, .int v2)]) (st' := []) (σ' := σ) (by decide +kernel) rfl rfl rfl ?_
  refine fhW.goto hΓ (off := (-30)) (tgt := 32) (by decide +kernel) ?_
  refine fhW.sub (lv' := [(0, .ref 0), (1, .int v1), (2, .int v2), (3, .int (v3 + (1 : Int32)))]) [1, 2, 3, 0] rfl ?_
  have e9 := Option.some.inj h
  subst e9
  exact hk
set_option maxRecDepth 100000 in
set_option maxHeartbeats 4000000 in
theorem L_X12_tell_32 {Γ : fhX} (hΓ : fhOk fhYM 12 cX12_tell 4 (some .int) Γ) (hd : 2 ≤ fhD Γ) (v1 : Int32) (v2 : Int32) (v3 : Int32)  (σ : fhM) (o : (Int32 × fhM) ⊕ (Int32 × fhM)) (h : f_X12_tell_32 v1 v2 v3 σ = some o) (hk : (fhK (fun x => fhW fhYM Γ 32 [(0, .ref 0), (1, .int v1), (2, .int v2), (3, .int x.1)] [] x.2) (fun o => fhRet Γ (some (.int o.1)) o.2)) o) : fhW fhYM Γ 32 [(0, .ref 0), (1, .int v1), (2, .int v2), (3, .int v3)] [] σ := by
  unfold f_X12_tell_32 at h
  refine fhW.blk fhPM fhLL hΓ [(.iload_n 3, 0), (.aload_n 0, 0), (.getfield 432, 0)] (pc' := 37) (lv' := [(0, .ref 0), (1, .int v1), (2, .int v2), (3, .int v3)]) (st' := [.int (σ.1 0 52), .int v3]) (σ' := σ) (by decide +kernel) rfl rfl rfl ?_
  refine fhW.i_ge hΓ (tgt := 65) (show fhbk _ _ (.if_icmp .ge (28)) _ = true by decide +kernel) (fun hc => ?_) (fun hc => ?_)
  · rw [if_pos hc] at h
    refine fhW.blk fhPM fhLL hΓ [(.aload_n 0, 0), (.iconst 2, 2), (.iload_n 1, 0), (.iload_n 2, 0)] (pc' := 69) (lv' := [(0, .ref 0), (1, .int v1), (2, .int v2), (3, .int v3)]) (st' := [.int v2, .int v1, .int (2 : Int32), .ref 0]) (σ' := σ) (by decide +kernel) rfl rfl rfl ?_
    refine fhW.z_eq hΓ (tgt := 76) (show fhbk _ _ (.ifCond .eq (7)) _ = true by decide +kernel) (fun hc => ?_) (fun hc => ?_)
    · simp only [if_pos hc] at h
      refine fhW.blk fhPM fhLL hΓ [(.iconst 0, 0)] (pc' := 77) (lv' := [(0, .ref 0), (1, .int v1), (2, .int v2), (3, .int v3)]) (st' := [.int (0 : Int32), .int v1, .int (2 : Int32), .ref 0]) (σ' := σ) (by decide +kernel) rfl rfl rfl ?_
      refine fhW.sub (lv' := [(2, .int v2)]) [2] rfl ?_
      obtain ⟨z1, hz, e1⟩ := Option.map_eq_some_iff.mp h
      clear h
      subst e1
      have h := hz
      have hk : (fun o => fhRet Γ (some (.int o.1)) o.2) z1 := hk
      exact L_X12_tell_77 hΓ hd v2 (0 : Int32) v1 (2 : Int32) σ _ h hk
    · simp only [if_neg hc] at h
      refine fhW.blk fhPM fhLL hΓ [(.iconst 1, 1)] (pc' := 73) (lv' := [(0, .ref 0), (1, .int v1), (2, .int v2), (3, .int v3)]) (st' := [.int (1 : Int32), .int v1, .int (2 : Int32), .ref 0]) (σ' := σ) (by decide +kernel) rfl rfl rfl ?_
      refine fhW.goto hΓ (off := 4) (tgt := 77) (by decide +kernel) ?_
      refine fhW.sub (lv' := [(2, .int v2)]) [2] rfl ?_
      obtain ⟨z2, hz, e2⟩ := Option.map_eq_some_iff.mp h
      clear h
      subst e2
      have h := hz
      have hk : (fun o => fhRet Γ (some (.int o.1)) o.2) z2 := hk
      exact L_X12_tell_77 hΓ hd v2 (1 : Int32) v1 (2 : Int32) σ _ h hk
  · rw [if_neg hc] at h
    refine fhW.blk fhPM fhLL hΓ [(.aload_n 0, 0), (.iload_n 3, 0), (.iload_n 1, 0)] (pc' := 43) (lv' := [(0, .ref 0), (1, .int v1), (2, .int v2), (3, .int v3)]) (st' := [.int v1, .int v3, .ref 0]) (σ' := σ) (by decide +kernel) rfl rfl rfl ?_
    obtain ⟨q4, hb2, h⟩ := Option.bind_eq_some_iff.mp h
    refine fhW.callv hΓ mvX12_doesHold ml_12_519 (t := 0) (ci := 12) (av := [.int v3, .int v1]) (rest := []) (r := (some (.int (fhb q4)))) (σ' := σ) (T_X12_doesHold (E := fhEn Γ) (d := fhD Γ - 1) (by omega) v3 v1 σ hb2) (by omega) (by decide +kernel) rfl rfl rfl (Nat.le_of_ble_eq_true rfl) rfl ?_
    show fhW fhYM Γ 46 [(0, .ref 0), (1, .int v1), (2, .int v2), (3, .int v3)] [.int (fhb q4)] σ
    refine fhW.blk fhPM fhLL hΓ [(.iload_n 2, 0)] (pc' := 47) (lv' := [(0, .ref 0), (1, .int v1), (2, .int v2), (3, .int v3)]) (st' := [.int v2, .int (fhb q4)]) (σ' := σ) (by decide +kernel) rfl rfl rfl ?_
    refine fhW.i_eq hΓ (tgt := 59) (show fhbk _ _ (.if_icmp .eq (12)) _ = true by decide +kernel) (fun hc => ?_) (fun hc => ?_)
    · rw [if_pos hc] at h
      refine fhW.sub (lv' := [(0, .ref 0), (1, .int v1), (2, .int v2), (3, .int v3)]) [0, 1, 2, 3] rfl ?_
      exact L_X12_tell_59 hΓ hd v1 v2 v3 σ _ h hk
    · rw [if_neg hc] at h
      obtain ⟨hg1, h⟩ := fhif h
      refine fhW.blk fhPM fhLL hΓ [(.aload_n 0, 0), (.getfield 147, 0), (.iconst 2, 2), (.iload_n 3, 0), (.iadd, 0), (.iconst 0, 0), (.iastore, 0)] (pc' := 59) (lv' := [(0, .ref 0), (1, .int v1), (2, .int v2), (3, .int v3)]) (st' := []) (σ' := (fhI σ 44 (fhix ((2 : Int32) + v3)) (0 : Int32))) (by decide +kernel) rfl rfl hg1 ?_
      refine fhW.sub (lv' := [(0, .ref 0), (1, .int v1), (2, .int v2), (3, .int v3)]) [0, 1, 2, 3] rfl ?_
      exact L_X12_tell_59 hΓ hd v1 v2 v3 (fhI σ 44 (fhix ((2 : Int32) + v3)) (0 : Int32)) _ h hk
set_option maxRecDepth 100000 in
set_option maxHeartbeats 4000000 in
theorem L_X12_tell_E {Γ : fhX} (hΓ : fhOk fhYM 12 cX12_tell 4 (some .int) Γ) (hd : 2 ≤ fhD Γ) (v1 : Int32)  (σ : fhM) (o : Int32 × fhM) (h : f_X12_tell v1 σ = some o) (hk : (fun o => fhRet Γ (some (.int o.1)) o.2) o) : fhW fhYM Γ 0 [(0, .ref 0), (1, .int v1)] [] σ := by
  unfold f_X12_tell at h
  refine fhW.blk fhPM fhLL hΓ [(.aload_n 0, 0), (.iload_n 1, 0)] (pc' := 2) (lv' := [(0, .ref 0), (1, .int v1)]) (st' := [.int v1, .ref 0]) (σ' := σ) (by decide +kernel) rfl rfl rfl ?_
  refine fhW.callv hΓ mvX12_isFact ml_12_514 (t := 0) (ci := 12) (av := [.int v1]) (rest := []) (r := (some (.int (fhb (f_X12_isFact v1 σ))))) (σ' := σ) (T_X12_isFact (E := fhEn Γ) (d := fhD Γ - 1) (by omega) v1 σ) (by omega) (by decide +kernel) rfl rfl rfl (Nat.le_of_ble_eq_true rfl) rfl ?_
  show fhW fhYM Γ 5 [(0, .ref 0), (1, .int v1)] [.int (fhb (f_X12_isFact v1 σ))] σ
  refine fhW.b_ne hΓ (tgt := 14) (show fhbk _ _ (.ifCond .ne (9)) _ = true by decide +kernel) (fun hc => ?_) (fun hc => ?_)
  · rw [if_pos hc] at h
    refine fhW.blk fhPM fhLL hΓ [(.aload_n 0, 0)] (pc' := 15) (lv' := [(0, .ref 0), (1, .int v1)]) (st' := [.ref 0]) (σ' := σ) (by decide +kernel) rfl rfl rfl ?_
    obtain ⟨q1, hb3, h⟩ := Option.bind_eq_some_iff.mp h
    refine fhW.callv hΓ mvX12_keeps ml_12_564 (t := 0) (ci := 12) (av := []) (rest := []) (r := none) (σ' := q1) (T_X12_keeps (E := fhEn Γ) (d := fhD Γ - 1) (by omega) σ hb3) (by omega) (by decide +kernel) rfl rfl rfl (Nat.le_of_ble_eq_true rfl) rfl ?_
    show fhW fhYM Γ 18 [(0, .ref 0), (1, .int v1)] [] q1
    refine fhW.blk fhPM fhLL hΓ [(.aload_n 0, 0), (.aload_n 0, 0), (.getfield 147, 0), (.iconst 1, 1), (.iaload, 0), (.iload_n 1, 0)] (pc' := 26) (lv' := [(0, .ref 0), (1, .int v1)]) (st' := [.int v1, .int (q1.1 44 1), .ref 0]) (σ' := q1) (by decide +kernel) rfl rfl rfl ?_
    obtain ⟨q2, hb4, h⟩ := Option.bind_eq_some_iff.mp h
    refine fhW.callv hΓ mvX12_doesHold ml_12_519 (t := 0) (ci := 12) (av := [.int (q1.1 44 1), .int v1]) (rest := []) (r := (some (.int (fhb q2)))) (σ' := q1) (T_X12_doesHold (E := fhEn Γ) (d := fhD Γ - 1) (by omega) (q1.1 44 1) v1 q1 hb4) (by omega) (by decide +kernel) rfl rfl rfl (Nat.le_of_ble_eq_true rfl) rfl ?_
    show fhW fhYM Γ 29 [(0, .ref 0), (1, .int v1)] [.int (fhb q2)] q1
    refine fhW.blk fhPM fhLL hΓ [(.istore_n 2, 0), (.iconst 0, 0), (.istore_n 3, 0)] (pc' := 32) (lv' := [(3, .int (0 : Int32)), (2, .int (fhb q2)), (0, .ref 0), (1, .int v1)]) (st' := []) (σ' := q1) (by decide +kernel) rfl rfl rfl ?_
    refine fhW.sub (lv' := [(0, .ref 0), (1, .int v1), (2, .int (fhb q2)), (3, .int (0 : Int32))]) [2, 3, 1, 0] rfl ?_
    exact fhlp_ok (W := (fun x => fhW fhYM Γ 32 [(0, .ref 0), (1, .int v1), (2, .int (fhb q2)), (3, .int x.1)] [] x.2)) (B := (fun o => fhRet Γ (some (.int o.1)) o.2)) (fun x o h hk => L_X12_tell_32 hΓ hd v1 (fhb q2) x.1 x.2 o h hk) ((0 : Int32), q1) _ h hk
  · rw [if_neg hc] at h
    refine fhW.blk fhPM fhLL hΓ [(.aload_n 0, 0), (.iconst 2, 2)] (pc' := 10) (lv' := [(0, .ref 0), (1, .int v1)]) (st' := [.int (2 : Int32), .ref 0]) (σ' := σ) (by decide +kernel) rfl rfl rfl ?_
    obtain ⟨q3, hb5, h⟩ := Option.bind_eq_some_iff.mp h
    refine fhW.callv hΓ mvX12_refuses ml_12_416 (t := 0) (ci := 12) (av := [.int (2 : Int32)]) (rest := []) (r := (some (.int q3.1))) (σ' := q3.2) (T_X12_refuses (E := fhEn Γ) (d := fhD Γ - 1) (by omega) (2 : Int32) σ hb5) (by omega) (by decide +kernel) rfl rfl rfl (Nat.le_of_ble_eq_true rfl) rfl ?_
    show fhW fhYM Γ 13 [(0, .ref 0), (1, .int v1)] [.int q3.1] q3.2
    have e9 := Option.some.inj h
    subst e9
    exact fhW.iret hΓ (by decide +kernel) hk
set_option maxRecDepth 100000 in
theorem T_X12_tell {E : fhE} {d : Nat} (hd : 2 ≤ d) (v1 : Int32)  (σ : fhM) {o : Int32 × fhM} (h : f_X12_tell v1 σ = some o) : fhC fhYM E d miX12_tell [.ref 0, .int v1] σ (some (.int o.1)) o.2 := by
  refine fhC.of (y := yX12_tell) (cc := cX12_tell) (nL := 4) (ret := (some .int)) 12 rfl (by decide +kernel) (Nat.le_of_ble_eq_true rfl) ?_
  intro Γ hΓ hR hD hEn
  subst hD; subst hEn
  exact L_X12_tell_E hΓ hd v1  σ _ h hR
set_option maxRecDepth 100000 in
set_option maxHeartbeats 4000000 in
theorem L_X12_rowWith_5 {Γ : fhX} (hΓ : fhOk fhYM 12 cX12_rowWith 5 (some .int) Γ) (hd : 2 ≤ fhD Γ) (v1 : Int32) (v2 : Int32) (v3 : Int32) (v4 : Int32)  (σ : fhM) (o : (Int32 × Int32) ⊕ (Int32)) (h : f_X12_rowWith_5 v1 v2 v3 v4 σ = some o) (hk : (fhK (fun x => fhW fhYM Γ 5 [(0, .ref 0), (1, .int v1), (2, .int v2), (3, .int x.1), (4, .int x.2)] [] σ) (fun o => fhRet Γ (some (.int o)) σ)) o) : fhW fhYM Γ 5 [(0, .ref 0), (1, .int v1), (2, .int v2), (3, .int v3), (4, .int v4)] [] σ := by
  unfold f_X12_rowWith_5 at h
  refine fhW.blk fhPM fhLL hΓ [(.iload 4, 0), (.iload_n 1, 0)] (pc' := 8) (lv' := [(0, .ref 0), (1, .int v1), (2, .int v2), (3, .int v3), (4, .int v4)]) (st' := [.int v1, .int v4]) (σ' := σ) (by decide +kernel) rfl rfl rfl ?_
  refine fhW.i_ge hΓ (tgt := 24) (show fhbk _ _ (.if_icmp .ge (16)) _ = true by decide +kernel) (fun hc => ?_) (fun hc => ?_)
  · rw [if_pos hc] at h
    refine fhW.blk fhPM fhLL hΓ [(.aload_n 0, 0), (.getfield 147, 0), (.iconst 1, 1), (.iaload, 0), (.iload_n 3, 0), (.iload_n 2, 0), (.aload_n 0, 0), (.aload_n 0, 0), (.getfield 147, 0), (.iconst 1, 1), (.iaload, 0), (.iload_n 1, 0)] (pc' := 40) (lv' := [(0, .ref 0), (1, .int v1), (2, .int v2), (3, .int v3), (4, .int v4)]) (st' := [.int v1, .int (σ.1 44 1), .ref 0, .int v2, .int v3, .int (σ.1 44 1)]) (σ' := σ) (by decide +kernel) rfl rfl rfl ?_
    obtain ⟨q1, hb1, h⟩ := Option.bind_eq_some_iff.mp h
    refine fhW.callv hΓ mvX12_markOf ml_12_429 (t := 0) (ci := 12) (av := [.int (σ.1 44 1), .int v1]) (rest := [.int v2, .int v3, .int (σ.1 44 1)]) (r := (some (.int q1))) (σ' := σ) (T_X12_markOf (E := fhEn Γ) (d := fhD Γ - 1) (by omega) (σ.1 44 1) v1 σ hb1) (by omega) (by decide +kernel) rfl rfl rfl (Nat.le_of_ble_eq_true rfl) rfl ?_
    show fhW fhYM Γ 43 [(0, .ref 0), (1, .int v1), (2, .int v2), (3, .int v3), (4, .int v4)] [.int q1, .int v2, .int v3, .int (σ.1 44 1)] σ
    refine fhW.blk fhPM fhLL hΓ [(.isub, 0), (.imul, 0), (.iadd, 0)] (pc' := 46) (lv' := [(0, .ref 0), (1, .int v1), (2, .int v2), (3, .int v3), (4, .int v4)]) (st' := [.int ((σ.1 44 1) + (v3 * (v2 - q1)))]) (σ' := σ) (by decide +kernel) rfl rfl rfl ?_
    have e9 := Option.some.inj h
    subst e9
    exact fhW.iret hΓ (by decide +kernel) hk
  · rw [if_neg hc] at h
    refine fhW.blk fhPM fhLL hΓ [(.iload_n 3, 0), (.aload_n 0, 0)] (pc' := 13) (lv' := [(0, .ref 0), (1, .int v1), (2, .int v2), (3, .int v3), (4, .int v4)]) (st' := [.ref 0, .int v3]) (σ' := σ) (by decide +kernel) rfl rfl rfl ?_
    refine fhW.callv hΓ mvX12_markMany ml_12_426 (t := 0) (ci := 12) (av := []) (rest := [.int v3]) (r := (some (.int (f_X12_markMany σ)))) (σ' := σ) (T_X12_markMany (E := fhEn Γ) (d := fhD Γ - 1) (by omega) σ) (by omega) (by decide +kernel) rfl rfl rfl (Nat.le_of_ble_eq_true rfl) rfl ?_
    show fhW fhYM Γ 16 [(0, .ref 0), (1, .int v1), (2, .int v2), (3, .int v3), (4, .int v4)] [.int (f_X12_markMany σ), .int v3] σ
    refine fhW.blk fhPM fhLL hΓ [(.imul, 0), (.istore_n 3, 0), (.iinc 4 1, 1)] (pc' := 21) (lv' := [(4, .int (v4 + (1 : Int32))), (3, .int (v3 * (f_X12_markMany σ))), (0, .ref 0), (1, .int v1), (2, .int v2)]) (st' := []) (σ' := σ) (by decide +kernel) rfl rfl rfl ?_
    refine fhW.goto hΓ (off := (-16)) (tgt := 5) (by decide +kernel) ?_
    refine fhW.sub (lv' := [(0, .ref 0), (1, .int v1), (2, .int v2), (3, .int (v3 * (f_X12_markMany σ))), (4, .int (v4 + (1 : Int32)))]) [2, 3, 4, 1, 0] rfl ?_
    have e9 := Option.some.inj h
    subst e9
    exact hk
set_option maxRecDepth 100000 in
set_option maxHeartbeats 4000000 in
theorem L_X12_rowWith_E {Γ : fhX} (hΓ : fhOk fhYM 12 cX12_rowWith 5 (some .int) Γ) (hd : 2 ≤ fhD Γ) (v1 : Int32) (v2 : Int32)  (σ : fhM) (o : Int32) (h : f_X12_rowWith v1 v2 σ = some o) (hk : (fun o => fhRet Γ (some (.int o)) σ) o) : fhW fhYM Γ 0 [(0, .ref 0), (1, .int v1), (2, .int v2)] [] σ := by
  unfold f_X12_rowWith at h
  refine fhW.blk fhPM fhLL hΓ [(.iconst 1, 1), (.istore_n 3, 0), (.iconst 0, 0), (.istore 4, 0)] (pc' := 5) (lv' := [(4, .int (0 : Int32)), (3, .int (1 : Int32)), (0, .ref 0), (1, .int v1), (2, .int v2)]) (st' := []) (σ' := σ) (by decide +kernel) rfl rfl rfl ?_
  refine fhW.sub (lv' := [(0, .ref 0), (1, .int v1), (2, .int v2), (3, .int (1 : Int32)), (4, .int (0 : Int32))]) [2, 3, 4, 1, 0] rfl ?_
  exact fhlp_ok (W := (fun x => fhW fhYM Γ 5 [(0, .ref 0), (1, .int v1), (2, .int v2), (3, .int x.1), (4, .int x.2)] [] σ)) (B := (fun o => fhRet Γ (some (.int o)) σ)) (fun x o h hk => L_X12_rowWith_5 hΓ hd v1 v2 x.1 x.2 σ o h hk) ((1 : Int32), (0 : Int32)) _ h hk
set_option maxRecDepth 100000 in
theorem T_X12_rowWith {E : fhE} {d : Nat} (hd : 2 ≤ d) (v1 : Int32) (v2 : Int32)  (σ : fhM) {o : Int32} (h : f_X12_rowWith v1 v2 σ = some o) : fhC fhYM E d miX12_rowWith [.ref 0, .int v1, .int v2] σ (some (.int o)) σ := by
  refine fhC.of (y := yX12_rowWith) (cc := cX12_rowWith) (nL := 5) (ret := (some .int)) 12 rfl (by decide +kernel) (Nat.le_of_ble_eq_true rfl) ?_
  intro Γ hΓ hR hD hEn
  subst hD; subst hEn
  exact L_X12_rowWith_E hΓ hd v1 v2  σ _ h hR
set_option maxRecDepth 100000 in
set_option maxHeartbeats 4000000 in
theorem L_X12_isWorn_E {Γ : fhX} (hΓ : fhOk fhYM 12 cX12_isWorn 2 none Γ) (hd : 1 ≤ fhD Γ) (v1 : Int32)  (σ : fhM) (o : fhM) (h : f_X12_isWorn v1 σ = some o) (hk : (fun o => fhRet Γ none o) o) : fhW fhYM Γ 0 [(0, .ref 0), (1, .int v1)] [] σ := by
  unfold f_X12_isWorn at h
  refine fhW.blk fhPM fhLL hΓ [(.aload_n 0, 0), (.getfield 147, 0), (.iconst 1, 1), (.iload_n 1, 0), (.iastore, 0), (.aload_n 0, 0)] (pc' := 8) (lv' := [(0, .ref 0), (1, .int v1)]) (st' := [.ref 0]) (σ' := (fhI σ 44 1 v1)) (by decide +kernel) rfl rfl rfl ?_
  obtain ⟨q1, hb1, h⟩ := Option.bind_eq_some_iff.mp h
  refine fhW.callv hΓ mvX12_begins ml_12_451 (t := 0) (ci := 12) (av := []) (rest := []) (r := none) (σ' := q1) (T_X12_begins (E := fhEn Γ) (d := fhD Γ - 1) (by omega) (fhI σ 44 1 v1) hb1) (by omega) (by decide +kernel) rfl rfl rfl (Nat.le_of_ble_eq_true rfl) rfl ?_
  show fhW fhYM Γ 11 [(0, .ref 0), (1, .int v1)] [] q1
  have e9 := Option.some.inj h
  subst e9
  exact fhW.vret hΓ (by decide +kernel) hk
set_option maxRecDepth 100000 in
theorem T_X12_isWorn {E : fhE} {d : Nat} (hd : 1 ≤ d) (v1 : Int32)  (σ : fhM) {o : fhM} (h : f_X12_isWorn v1 σ = some o) : fhC fhYM E d miX12_isWorn [.ref 0, .int v1] σ none o := by
  refine fhC.of (y := yX12_isWorn) (cc := cX12_isWorn) (nL := 2) (ret := none) 12 rfl (by decide +kernel) (Nat.le_of_ble_eq_true rfl) ?_
  intro Γ hΓ hR hD hEn
  subst hD; subst hEn
  exact L_X12_isWorn_E hΓ hd v1  σ _ h hR
set_option maxRecDepth 100000 in
set_option maxHeartbeats 4000000 in
theorem L_X12_wear_54 {Γ : fhX} (hΓ : fhOk fhYM 12 cX12_wear 3 (some .boolean) Γ) (hd : 3 ≤ fhD Γ)   (σ : fhM) (o : Bool × fhM) (h : f_X12_wear_54 σ = some o) (hk : (fun o => fhRet Γ (some (.int (fhb o.1))) o.2) o) : fhW fhYM Γ 54 [(0, .ref 0)] [] σ := by
  unfold f_X12_wear_54 at h
  refine fhW.blk fhPM fhLL hΓ [(.aload_n 0, 0), (.iconst 2, 2)] (pc' := 56) (lv' := [(0, .ref 0)]) (st' := [.int (2 : Int32), .ref 0]) (σ' := σ) (by decide +kernel) rfl rfl rfl ?_
  obtain ⟨q6, hb1, h⟩ := Option.bind_eq_some_iff.mp h
  refine fhW.callv hΓ mvX12_isRefused ml_12_570 (t := 0) (ci := 12) (av := [.int (2 : Int32)]) (rest := []) (r := (some (.int (fhb q6.1)))) (σ' := q6.2) (T_X12_isRefused (E := fhEn Γ) (d := fhD Γ - 1) (by omega) (2 : Int32) σ hb1) (by omega) (by decide +kernel) rfl rfl rfl (Nat.le_of_ble_eq_true rfl) rfl ?_
  show fhW fhYM Γ 59 [(0, .ref 0)] [.int (fhb q6.1)] q6.2
  have e9 := Option.some.inj h
  subst e9
  exact fhW.zret (v := q6.1) hΓ (by decide +kernel) hk
set_option maxRecDepth 100000 in
set_option maxHeartbeats 4000000 in
theorem L_X12_wear_E {Γ : fhX} (hΓ : fhOk fhYM 12 cX12_wear 3 (some .boolean) Γ) (hd : 3 ≤ fhD Γ) (v1 : Int32) (v2 : Int32)  (σ : fhM) (o : Bool × fhM) (h : f_X12_wear v1 v2 σ = some o) (hk : (fun o => fhRet Γ (some (.int (fhb o.1))) o.2) o) : fhW fhYM Γ 0 [(0, .ref 0), (1, .int v1), (2, .int v2)] [] σ := by
  unfold f_X12_wear at h
  refine fhW.blk fhPM fhLL hΓ [(.aload_n 0, 0), (.iload_n 1, 0), (.i2l, 0)] (pc' := 3) (lv' := [(0, .ref 0), (1, .int v1), (2, .int v2)]) (st' := [.long (Int32.toInt64 v1), .ref 0]) (σ' := σ) (by decide +kernel) rfl rfl rfl ?_
  refine fhW.callv hΓ mvX12_isGuest ml_12_505 (t := 0) (ci := 12) (av := [.long (Int32.toInt64 v1)]) (rest := []) (r := (some (.int (fhb (f_X12_isGuest (Int32.toInt64 v1) σ))))) (σ' := σ) (T_X12_isGuest (E := fhEn Γ) (d := fhD Γ - 1) (by omega) (Int32.toInt64 v1) σ) (by omega) (by decide +kernel) rfl rfl rfl (Nat.le_of_ble_eq_true rfl) rfl ?_
  show fhW fhYM Γ 6 [(0, .ref 0), (1, .int v1), (2, .int v2)] [.int (fhb (f_X12_isGuest (Int32.toInt64 v1) σ))] σ
  refine fhW.b_eq hΓ (tgt := 54) (show fhbk _ _ (.ifCond .eq (48)) _ = true by decide +kernel) (fun hc => ?_) (fun hc => ?_)
  · rw [if_neg hc] at h
    refine fhW.sub (lv' := [(0, .ref 0)]) [0] rfl ?_
    exact L_X12_wear_54 hΓ hd σ _ h hk
  · rw [if_pos hc] at h
    refine fhW.blk fhPM fhLL hΓ [(.iload_n 2, 0), (.i2l, 0), (.lconst 0, 0), (.aload_n 0, 0)] (pc' := 13) (lv' := [(0, .ref 0), (1, .int v1), (2, .int v2)]) (st' := [.ref 0, .long (0 : Int64), .long (Int32.toInt64 v2)]) (σ' := σ) (by decide +kernel) rfl rfl rfl ?_
    refine fhW.callv hΓ mvX12_markMany ml_12_426 (t := 0) (ci := 12) (av := []) (rest := [.long (0 : Int64), .long (Int32.toInt64 v2)]) (r := (some (.int (f_X12_markMany σ)))) (σ' := σ) (T_X12_markMany (E := fhEn Γ) (d := fhD Γ - 1) (by omega) σ) (by omega) (by decide +kernel) rfl rfl rfl (Nat.le_of_ble_eq_true rfl) rfl ?_
    show fhW fhYM Γ 16 [(0, .ref 0), (1, .int v1), (2, .int v2)] [.int (f_X12_markMany σ), .long (0 : Int64), .long (Int32.toInt64 v2)] σ
    refine fhW.blk fhPM fhLL hΓ [(.iconst 1, 1), (.isub, 0), (.i2l, 0)] (pc' := 19) (lv' := [(0, .ref 0), (1, .int v1), (2, .int v2)]) (st' := [.long (Int32.toInt64 ((f_X12_markMany σ) - (1 : Int32))), .long (0 : Int64), .long (Int32.toInt64 v2)]) (σ' := σ) (by decide +kernel) rfl rfl rfl ?_
    refine fhW.calls hΓ msX12_isIn ml_12_305 (av := [.long (Int32.toInt64 v2), .long (0 : Int64), .long (Int32.toInt64 ((f_X12_markMany σ) - (1 : Int32)))]) (rest := []) (r := (some (.int (fhb (f_X12_isIn (Int32.toInt64 v2) (0 : Int64) (Int32.toInt64 ((f_X12_markMany σ) - (1 : Int32))) σ))))) (σ' := σ) (T_X12_isIn (E := fhEn Γ) (d := fhD Γ - 1) (by omega) (Int32.toInt64 v2) (0 : Int64) (Int32.toInt64 ((f_X12_markMany σ) - (1 : Int32))) σ) (by omega) (by decide +kernel) rfl (Nat.le_of_ble_eq_true rfl) rfl ?_
    show fhW fhYM Γ 22 [(0, .ref 0), (1, .int v1), (2, .int v2)] [.int (fhb (f_X12_isIn (Int32.toInt64 v2) (0 : Int64) (Int32.toInt64 ((f_X12_markMany σ) - (1 : Int32))) σ))] σ
    refine fhW.b_eq hΓ (tgt := 54) (show fhbk _ _ (.ifCond .eq (32)) _ = true by decide +kernel) (fun hc => ?_) (fun hc => ?_)
    · rw [if_neg hc] at h
      refine fhW.sub (lv' := [(0, .ref 0)]) [0] rfl ?_
      exact L_X12_wear_54 hΓ hd σ _ h hk
    · rw [if_pos hc] at h
      refine fhW.blk fhPM fhLL hΓ [(.aload_n 0, 0), (.aload_n 0, 0), (.getfield 147, 0), (.iconst 1, 1), (.iaload, 0), (.iload_n 1, 0)] (pc' := 33) (lv' := [(0, .ref 0), (1, .int v1), (2, .int v2)]) (st' := [.int v1, .int (σ.1 44 1), .ref 0]) (σ' := σ) (by decide +kernel) rfl rfl rfl ?_
      obtain ⟨q1, hb2, h⟩ := Option.bind_eq_some_iff.mp h
      refine fhW.callv hΓ mvX12_markOf ml_12_429 (t := 0) (ci := 12) (av := [.int (σ.1 44 1), .int v1]) (rest := []) (r := (some (.int q1))) (σ' := σ) (T_X12_markOf (E := fhEn Γ) (d := fhD Γ - 1) (by omega) (σ.1 44 1) v1 σ hb2) (by omega) (by decide +kernel) rfl rfl rfl (Nat.le_of_ble_eq_true rfl) rfl ?_
      show fhW fhYM Γ 36 [(0, .ref 0), (1, .int v1), (2, .int v2)] [.int q1] σ
      refine fhW.blk fhPM fhLL hΓ [(.iload_n 2, 0)] (pc' := 37) (lv' := [(0, .ref 0), (1, .int v1), (2, .int v2)]) (st' := [.int v2, .int q1]) (σ' := σ) (by decide +kernel) rfl rfl rfl ?_
      refine fhW.i_eq hΓ (tgt := 54) (show fhbk _ _ (.if_icmp .eq (17)) _ = true by decide +kernel) (fun hc => ?_) (fun hc => ?_)
      · rw [if_pos hc] at h
        refine fhW.sub (lv' := [(0, .ref 0)]) [0] rfl ?_
        exact L_X12_wear_54 hΓ hd σ _ h hk
      · rw [if_neg hc] at h
        refine fhW.blk fhPM fhLL hΓ [(.aload_n 0, 0), (.getfield 124, 0), (.aload_n 0, 0), (.iload_n 1, 0), (.iload_n 2, 0)] (pc' := 47) (lv' := [(0, .ref 0), (1, .int v1), (2, .int v2)]) (st' := [.int v2, .int v1, .ref 0, .ref 37]) (σ' := σ) (by decide +kernel) rfl rfl rfl ?_
        obtain ⟨q2, hb3, h⟩ := Option.bind_eq_some_iff.mp h
        refine fhW.callv hΓ mvX12_rowWith ml_12_567 (t := 0) (ci := 12) (av := [.int v1, .int v2]) (rest := [.ref 37]) (r := (some (.int q2))) (σ' := σ) (T_X12_rowWith (E := fhEn Γ) (d := fhD Γ - 1) (by omega) v1 v2 σ hb3) (by omega) (by decide +kernel) rfl rfl rfl (Nat.le_of_ble_eq_true rfl) rfl ?_
        show fhW fhYM Γ 50 [(0, .ref 0), (1, .int v1), (2, .int v2)] [.int q2, .ref 37] σ
        obtain ⟨hg1, h⟩ := fhif h
        refine fhW.blk fhPM fhLL hΓ [(.baload, 0)] (pc' := 51) (lv' := [(0, .ref 0), (1, .int v1), (2, .int v2)]) (st' := [.int (σ.1 37 (fhix q2))]) (σ' := σ) (by decide +kernel) rfl rfl hg1 ?_
        refine fhW.z_ne hΓ (tgt := 60) (show fhbk _ _ (.ifCond .ne (9)) _ = true by decide +kernel) (fun hc => ?_) (fun hc => ?_)
        · rw [if_neg hc] at h
          refine fhW.blk fhPM fhLL hΓ [(.aload_n 0, 0)] (pc' := 61) (lv' := [(0, .ref 0), (1, .int v1), (2, .int v2)]) (st' := [.ref 0]) (σ' := σ) (by decide +kernel) rfl rfl rfl ?_
          obtain ⟨q3, hb4, h⟩ := Option.bind_eq_some_iff.mp h
          refine fhW.callv hΓ mvX12_keeps ml_12_564 (t := 0) (ci := 12) (av := []) (rest := []) (r := none) (σ' := q3) (T_X12_keeps (E := fhEn Γ) (d := fhD Γ - 1) (by omega) σ hb4) (by omega) (by decide +kernel) rfl rfl rfl (Nat.le_of_ble_eq_true rfl) rfl ?_
          show fhW fhYM Γ 64 [(0, .ref 0), (1, .int v1), (2, .int v2)] [] q3
          refine fhW.blk fhPM fhLL hΓ [(.aload_n 0, 0), (.aload_n 0, 0), (.iload_n 1, 0), (.iload_n 2, 0)] (pc' := 68) (lv' := [(0, .ref 0), (1, .int v1), (2, .int v2)]) (st' := [.int v2, .int v1, .ref 0, .ref 0]) (σ' := q3) (by decide +kernel) rfl rfl rfl ?_
          obtain ⟨q4, hb5, h⟩ := Option.bind_eq_some_iff.mp h
          refine fhW.callv hΓ mvX12_rowWith ml_12_567 (t := 0) (ci := 12) (av := [.int v1, .int v2]) (rest := [.ref 0]) (r := (some (.int q4))) (σ' := q3) (T_X12_rowWith (E := fhEn Γ) (d := fhD Γ - 1) (by omega) v1 v2 q3 hb5) (by omega) (by decide +kernel) rfl rfl rfl (Nat.le_of_ble_eq_true rfl) rfl ?_
          show fhW fhYM Γ 71 [(0, .ref 0), (1, .int v1), (2, .int v2)] [.int q4, .ref 0] q3
          obtain ⟨q5, hb6, h⟩ := Option.bind_eq_some_iff.mp h
          refine fhW.callv hΓ mvX12_isWorn ml_12_573 (t := 0) (ci := 12) (av := [.int q4]) (rest := []) (r := none) (σ' := q5) (T_X12_isWorn (E := fhEn Γ) (d := fhD Γ - 1) (by omega) q4 q3 hb6) (by omega) (by decide +kernel) rfl rfl rfl (Nat.le_of_ble_eq_true rfl) rfl ?_
          show fhW fhYM Γ 74 [(0, .ref 0), (1, .int v1), (2, .int v2)] [] q5
          refine fhW.blk fhPM fhLL hΓ [(.iconst 1, 1)] (pc' := 75) (lv' := [(0, .ref 0), (1, .int v1), (2, .int v2)]) (st' := [.int (1 : Int32)]) (σ' := q5) (by decide +kernel) rfl rfl rfl ?_
          have e9 := Option.some.inj h
          subst e9
          exact fhW.zret (v := true) hΓ (by decide +kernel) hk
        · rw [if_pos hc] at h
          refine fhW.sub (lv' := [(0, .ref 0)]) [0] rfl ?_
          exact L_X12_wear_54 hΓ hd σ _ h hk
set_option maxRecDepth 100000 in
theorem T_X12_wear {E : fhE} {d : Nat} (hd : 3 ≤ d) (v1 : Int32) (v2 : Int32)  (σ : fhM) {o : Bool × fhM} (h : f_X12_wear v1 v2 σ = some o) : fhC fhYM E d miX12_wear [.ref 0, .int v1, .int v2] σ (some (.int (fhb o.1))) o.2 := by
  refine fhC.of (y := yX12_wear) (cc := cX12_wear) (nL := 3) (ret := (some .boolean)) 12 rfl (by decide +kernel) (Nat.le_of_ble_eq_true rfl) ?_
  intro Γ hΓ hR hD hEn
  subst hD; subst hEn
  exact L_X12_wear_E hΓ hd v1 v2  σ _ h hR
