set_option maxRecDepth 100000 in
set_option maxHeartbeats 4000000 in
theorem L_X12_seed_E {Γ : fhX} (hΓ : fhOk fhYM 12 cX12_seed 2 (some .boolean) Γ) (hd : 1 ≤ fhD Γ) (v1 : Int32)  (σ : fhM) (o : Bool × fhM) (h : f_X12_seed v1 σ = some o) (hk : (fun o => fhRet Γ (some (.int (fhb o.1))) o.2) o) : fhW fhYM Γ 0 [(0, .ref 0), (1, .int v1)] [] σ := by
  unfold f_X12_seed at h
  refine fhW.blk fhPM fhLL hΓ [(.iload_n 1, 0)] (pc' := 1) (lv' := [(0, .ref 0), (1, .int v1)]) (st' := [.int v1]) (σ' := σ) (by decide +kernel) rfl rfl rfl ?_
  refine fhW.z_ge hΓ (tgt := 10) (show fhbk _ _ (.ifCond .ge (9)) _ = true by decide +kernel) (fun hc => ?_) (fun hc => ?_)
  · rw [if_pos hc] at h
    refine fhW.blk fhPM fhLL hΓ [(.aload_n 0, 0), (.iload_n 1, 0), (.i2l, 0), (.putfield 171, 0), (.iconst 1, 1)] (pc' := 17) (lv' := [(0, .ref 0), (1, .int v1)]) (st' := [.int (1 : Int32)]) (σ' := (fhJ σ 0 73 (Int32.toInt64 v1))) (by decide +kernel) rfl rfl rfl ?_
    have e9 := Option.some.inj h
    subst e9
    exact fhW.zret (v := true) hΓ (by decide +kernel) hk
  · rw [if_neg hc] at h
    refine fhW.blk fhPM fhLL hΓ [(.aload_n 0, 0), (.iconst 5, 5)] (pc' := 6) (lv' := [(0, .ref 0), (1, .int v1)]) (st' := [.int (5 : Int32), .ref 0]) (σ' := σ) (by decide +kernel) rfl rfl rfl ?_
    obtain ⟨q1, hb1, h⟩ := Option.bind_eq_some_iff.mp h
    refine fhW.callv hΓ mvX12_isRefused ml_12_570 (t := 0) (ci := 12) (av := [.int (5 : Int32)]) (rest := []) (r := (some (.int (fhb q1.1)))) (σ' := q1.2) (T_X12_isRefused (E := fhEn Γ) (d := fhD Γ - 1) (by omega) (5 : Int32) σ hb1) (by omega) (by decide +kernel) rfl rfl rfl (Nat.le_of_ble_eq_true rfl) rfl ?_
    show fhW fhYM Γ 9 [(0, .ref 0), (1, .int v1)] [.int (fhb q1.1)] q1.2
    have e9 := Option.some.inj h
    subst e9
    exact fhW.zret (v := q1.1) hΓ (by decide +kernel) hk
set_option maxRecDepth 100000 in
theorem T_X12_seed {E : fhE} {d : Nat} (hd : 1 ≤ d) (v1 : Int32)  (σ : fhM) {o : Bool × fhM} (h : f_X12_seed v1 σ = some o) : fhC fhYM E d miX12_seed [.ref 0, .int v1] σ (some (.int (fhb o.1))) o.2 := by
  refine fhC.of (y := yX12_seed) (cc := cX12_seed) (nL := 2) (ret := (some .boolean)) 12 rfl (by decide +kernel) (Nat.le_of_ble_eq_true rfl) ?_
  intro Γ hΓ hR hD hEn
  subst hD; subst hEn
  exact L_X12_seed_E hΓ hd v1  σ _ h hR
set_option maxRecDepth 100000 in
set_option maxHeartbeats 4000000 in
theorem L_X12_drawOf_E {Γ : fhX} (hΓ : fhOk fhYM 12 cX12_drawOf 2 (some .int) Γ) (hd : 0 ≤ fhD Γ) (v1 : Int32)  (σ : fhM) (o : Int32 × fhM) (h : f_X12_drawOf v1 σ = some o) (hk : (fun o => fhRet Γ (some (.int o.1)) o.2) o) : fhW fhYM Γ 0 [(0, .ref 0), (1, .int v1)] [] σ := by
  unfold f_X12_drawOf at h
  obtain ⟨hg1, h⟩ := fhif h
  refine fhW.blk fhPM fhLL hΓ [(.aload_n 0, 0), (.ldc2_w 576, 0), (.aload_n 0, 0), (.getfield 171, 0), (.lmul, 0), (.ldc2_w 578, 0), (.ladd, 0), (.ldc2_w 580, 0), (.lrem, 0), (.putfield 171, 0), (.aload_n 0, 0), (.getfield 171, 0), (.ldc2_w 582, 0), (.ldiv, 0), (.iload_n 1, 0), (.i2l, 0), (.lrem, 0), (.l2i, 0)] (pc' := 32) (lv' := [(0, .ref 0), (1, .int v1)]) (st' := [.int (Int64.toInt32 (fhreml ((fhreml (((1103515245 : Int64) * (σ.2.1 0 73)) + (12345 : Int64)) (2147483648 : Int64)) / (64 : Int64)) (Int32.toInt64 v1)))]) (σ' := (fhJ σ 0 73 (fhreml (((1103515245 : Int64) * (σ.2.1 0 73)) + (12345 : Int64)) (2147483648 : Int64)))) (by decide +kernel) rfl rfl hg1 ?_
  have e9 := Option.some.inj h
  subst e9
  exact fhW.iret hΓ (by decide +kernel) hk
set_option maxRecDepth 100000 in
theorem T_X12_drawOf {E : fhE} {d : Nat} (hd : 0 ≤ d) (v1 : Int32)  (σ : fhM) {o : Int32 × fhM} (h : f_X12_drawOf v1 σ = some o) : fhC fhYM E d miX12_drawOf [.ref 0, .int v1] σ (some (.int o.1)) o.2 := by
  refine fhC.of (y := yX12_drawOf) (cc := cX12_drawOf) (nL := 2) (ret := (some .int)) 12 rfl (by decide +kernel) (Nat.le_of_ble_eq_true rfl) ?_
  intro Γ hΓ hR hD hEn
  subst hD; subst hEn
  exact L_X12_drawOf_E hΓ hd v1  σ _ h hR
set_option maxRecDepth 100000 in
set_option maxHeartbeats 4000000 in
theorem L_X12_chance_33 {Γ : fhX} (hΓ : fhOk fhYM 12 cX12_chance 5 (some .int) Γ) (hd : 5 ≤ fhD Γ)   (σ : fhM) (o : Int32 × fhM) (h : f_X12_chance_33 σ = some o) (hk : (fun o => fhRet Γ (some (.int o.1)) o.2) o) : fhW fhYM Γ 33 [(0, .ref 0)] [] σ := by
  unfold f_X12_chance_33 at h
  refine fhW.blk fhPM fhLL hΓ [(.aload_n 0, 0), (.iconst 3, 3)] (pc' := 35) (lv' := [(0, .ref 0)]) (st' := [.int (3 : Int32), .ref 0]) (σ' := σ) (by decide +kernel) rfl rfl rfl ?_
  obtain ⟨q2, hb1, h⟩ := Option.bind_eq_some_iff.mp h
  refine fhW.callv hΓ mvX12_refuses ml_12_416 (t := 0) (ci := 12) (av := [.int (3 : Int32)]) (rest := []) (r := (some (.int q2.1))) (σ' := q2.2) (T_X12_refuses (E := fhEn Γ) (d := fhD Γ - 1) (by omega) (3 : Int32) σ hb1) (by omega) (by decide +kernel) rfl rfl rfl (Nat.le_of_ble_eq_true rfl) rfl ?_
  show fhW fhYM Γ 38 [(0, .ref 0)] [.int q2.1] q2.2
  have e9 := Option.some.inj h
  subst e9
  exact fhW.iret hΓ (by decide +kernel) hk
set_option maxRecDepth 100000 in
set_option maxHeartbeats 4000000 in
theorem L_X12_chance_99 {Γ : fhX} (hΓ : fhOk fhYM 12 cX12_chance 5 (some .int) Γ) (hd : 5 ≤ fhD Γ) (v1 : Int32) (v2 : Int32) (v3 : Int32) (v4 : Int32)  (σ : fhM) (o : (Int32 × Int32 × fhM) ⊕ (Int32 × fhM)) (h : f_X12_chance_99 v1 v2 v3 v4 σ = some o) (hk : (fhK (fun x => fhW fhYM Γ 47 [(0, .ref 0), (1, .int v1), (2, .int x.1), (3, .int x.2.1)] [] x.2.2) (fun o => fhRet Γ (some (.int o.1)) o.2)) o) : fhW fhYM Γ 99 [(0, .ref 0), (1, .int v1), (2, .int v2), (3, .int v3), (4, .int v4)] [] σ := by
  unfold f_X12_chance_99 at h
  refine fhW.blk fhPM fhLL hΓ [(.aload_n 0, 0), (.iload 4, 0)] (pc' := 102) (lv' := [(0, .ref 0), (1, .int v1), (2, .int v2), (3, .int v3), (4, .int v4)]) (st' := [.int v4, .ref 0]) (σ' := σ) (by decide +kernel) rfl rfl rfl ?_
  obtain ⟨q5, hb2, h⟩ := Option.bind_eq_some_iff.mp h
  refine fhW.callv hΓ mvX12_roundGoes ml_12_533 (t := 0) (ci := 12) (av := [.int v4]) (rest := []) (r := (some (.int q5.1))) (σ' := q5.2) (T_X12_roundGoes (E := fhEn Γ) (d := fhD Γ - 1) (by omega) v4 σ hb2) (by omega) (by decide +kernel) rfl rfl rfl (Nat.le_of_ble_eq_true rfl) rfl ?_
  show fhW fhYM Γ 105 [(0, .ref 0), (1, .int v1), (2, .int v2), (3, .int v3), (4, .int v4)] [.int q5.1] q5.2
  refine fhW.blk fhPM fhLL hΓ [(.pop, 0), (.iinc 3 1, 1)] (pc' := 109) (lv' := [(3, .int (v3 + (1 : Int32))), (0, .ref 0), (1, .int v1), (2, .int v2), (4, .int v4)]) (st' := []) (σ' := q5.2) (by decide +kernel) rfl rfl rfl ?_
  refine fhW.goto hΓ (off := (-62)) (tgt := 47) (by decide +kernel) ?_
  refine fhW.sub (lv' := [(0, .ref 0), (1, .int v1), (2, .int v2), (3, .int (v3 + (1 : Int32)))]) [1, 2, 3, 0] rfl ?_
  have e9 := Option.some.inj h
  subst e9
  exact hk
set_option maxRecDepth 100000 in
set_option maxHeartbeats 4000000 in
theorem L_X12_chance_47 {Γ : fhX} (hΓ : fhOk fhYM 12 cX12_chance 5 (some .int) Γ) (hd : 5 ≤ fhD Γ) (v1 : Int32) (v2 : Int32) (v3 : Int32)  (σ : fhM) (o : (Int32 × Int32 × fhM) ⊕ (Int32 × fhM)) (h : f_X12_chance_47 v1 v2 v3 σ = some o) (hk : (fhK (fun x => fhW fhYM Γ 47 [(0, .ref 0), (1, .int v1), (2, .int x.1), (3, .int x.2.1)] [] x.2.2) (fun o => fhRet Γ (some (.int o.1)) o.2)) o) : fhW fhYM Γ 47 [(0, .ref 0), (1, .int v1), (2, .int v2), (3, .int v3)] [] σ := by
  unfold f_X12_chance_47 at h
  refine fhW.blk fhPM fhLL hΓ [(.iload_n 3, 0), (.iload_n 1, 0)] (pc' := 49) (lv' := [(0, .ref 0), (1, .int v1), (2, .int v2), (3, .int v3)]) (st' := [.int v1, .int v3]) (σ' := σ) (by decide +kernel) rfl rfl rfl ?_
  refine fhW.i_ge hΓ (tgt := 112) (show fhbk _ _ (.if_icmp .ge (63)) _ = true by decide +kernel) (fun hc => ?_) (fun hc => ?_)
  · rw [if_pos hc] at h
    refine fhW.blk fhPM fhLL hΓ [(.iload_n 2, 0)] (pc' := 113) (lv' := [(0, .ref 0), (1, .int v1), (2, .int v2), (3, .int v3)]) (st' := [.int v2]) (σ' := σ) (by decide +kernel) rfl rfl rfl ?_
    have e9 := Option.some.inj h
    subst e9
    exact fhW.iret hΓ (by decide +kernel) hk
  · rw [if_neg hc] at h
    refine fhW.blk fhPM fhLL hΓ [(.bipush 31, 31), (.istore 4, 0), (.aload_n 0, 0), (.bipush 100, 100)] (pc' := 59) (lv' := [(4, .int (31 : Int32)), (0, .ref 0), (1, .int v1), (2, .int v2), (3, .int v3)]) (st' := [.int (100 : Int32), .ref 0]) (σ' := σ) (by decide +kernel) rfl rfl rfl ?_
    obtain ⟨q3, hb3, h⟩ := Option.bind_eq_some_iff.mp h
    refine fhW.callv hΓ mvX12_drawOf ml_12_584 (t := 0) (ci := 12) (av := [.int (100 : Int32)]) (rest := []) (r := (some (.int q3.1))) (σ' := q3.2) (T_X12_drawOf (E := fhEn Γ) (d := fhD Γ - 1) (by omega) (100 : Int32) σ hb3) (by omega) (by decide +kernel) rfl rfl rfl (Nat.le_of_ble_eq_true rfl) rfl ?_
    show fhW fhYM Γ 62 [(4, .int (31 : Int32)), (0, .ref 0), (1, .int v1), (2, .int v2), (3, .int v3)] [.int q3.1] q3.2
    refine fhW.blk fhPM fhLL hΓ [(.aload_n 0, 0), (.getfield 99, 0), (.bipush 9, 9), (.iaload, 0)] (pc' := 69) (lv' := [(4, .int (31 : Int32)), (0, .ref 0), (1, .int v1), (2, .int v2), (3, .int v3)]) (st' := [.int (q3.2.1 29 9), .int q3.1]) (σ' := q3.2) (by decide +kernel) rfl rfl rfl ?_
    refine fhW.i_ge hΓ (tgt := 99) (show fhbk _ _ (.if_icmp .ge (30)) _ = true by decide +kernel) (fun hc => ?_) (fun hc => ?_)
    · rw [if_pos hc] at h
      refine fhW.sub (lv' := [(0, .ref 0), (1, .int v1), (2, .int v2), (3, .int v3), (4, .int (31 : Int32))]) [1, 2, 3, 4, 0] rfl ?_
      exact L_X12_chance_99 hΓ hd v1 v2 v3 (31 : Int32) q3.2 _ h hk
    · rw [if_neg hc] at h
      refine fhW.blk fhPM fhLL hΓ [(.aload_n 0, 0)] (pc' := 73) (lv' := [(4, .int (31 : Int32)), (0, .ref 0), (1, .int v1), (2, .int v2), (3, .int v3)]) (st' := [.ref 0]) (σ' := q3.2) (by decide +kernel) rfl rfl rfl ?_
      refine fhW.callv hΓ mvX12_guestMany ml_12_423 (t := 0) (ci := 12) (av := []) (rest := []) (r := (some (.int (f_X12_guestMany q3.2)))) (σ' := q3.2) (T_X12_guestMany (E := fhEn Γ) (d := fhD Γ - 1) (by omega) q3.2) (by omega) (by decide +kernel) rfl rfl rfl (Nat.le_of_ble_eq_true rfl) rfl ?_
      show fhW fhYM Γ 76 [(4, .int (31 : Int32)), (0, .ref 0), (1, .int v1), (2, .int v2), (3, .int v3)] [.int (f_X12_guestMany q3.2)] q3.2
      refine fhW.z_le hΓ (tgt := 99) (show fhbk _ _ (.ifCond .le (23)) _ = true by decide +kernel) (fun hc => ?_) (fun hc => ?_)
      · rw [if_pos hc] at h
        refine fhW.sub (lv' := [(0, .ref 0), (1, .int v1), (2, .int v2), (3, .int v3), (4, .int (31 : Int32))]) [1, 2, 3, 4, 0] rfl ?_
        exact L_X12_chance_99 hΓ hd v1 v2 v3 (31 : Int32) q3.2 _ h hk
      · rw [if_neg hc] at h
        refine fhW.blk fhPM fhLL hΓ [(.iload 4, 0), (.iconst 1, 1), (.aload_n 0, 0), (.aload_n 0, 0)] (pc' := 84) (lv' := [(4, .int (31 : Int32)), (0, .ref 0), (1, .int v1), (2, .int v2), (3, .int v3)]) (st' := [.ref 0, .ref 0, .int (1 : Int32), .int (31 : Int32)]) (σ' := q3.2) (by decide +kernel) rfl rfl rfl ?_
        refine fhW.callv hΓ mvX12_guestMany ml_12_423 (t := 0) (ci := 12) (av := []) (rest := [.ref 0, .int (1 : Int32), .int (31 : Int32)]) (r := (some (.int (f_X12_guestMany q3.2)))) (σ' := q3.2) (T_X12_guestMany (E := fhEn Γ) (d := fhD Γ - 1) (by omega) q3.2) (by omega) (by decide +kernel) rfl rfl rfl (Nat.le_of_ble_eq_true rfl) rfl ?_
        show fhW fhYM Γ 87 [(4, .int (31 : Int32)), (0, .ref 0), (1, .int v1), (2, .int v2), (3, .int v3)] [.int (f_X12_guestMany q3.2), .ref 0, .int (1 : Int32), .int (31 : Int32)] q3.2
        obtain ⟨q4, hb4, h⟩ := Option.bind_eq_some_iff.mp h
        refine fhW.callv hΓ mvX12_drawOf ml_12_584 (t := 0) (ci := 12) (av := [.int (f_X12_guestMany q3.2)]) (rest := [.int (1 : Int32), .int (31 : Int32)]) (r := (some (.int q4.1))) (σ' := q4.2) (T_X12_drawOf (E := fhEn Γ) (d := fhD Γ - 1) (by omega) (f_X12_guestMany q3.2) q3.2 hb4) (by omega) (by decide +kernel) rfl rfl rfl (Nat.le_of_ble_eq_true rfl) rfl ?_
        show fhW fhYM Γ 90 [(4, .int (31 : Int32)), (0, .ref 0), (1, .int v1), (2, .int v2), (3, .int v3)] [.int q4.1, .int (1 : Int32), .int (31 : Int32)] q4.2
        refine fhW.blk fhPM fhLL hΓ [(.ishl, 0), (.iconst (-1), -1), (.ixor, 0), (.iand, 0), (.istore 4, 0)] (pc' := 96) (lv' := [(4, .int ((31 : Int32) &&& (((1 : Int32) <<< (q4.1 &&& 31)) ^^^ (-1 : Int32)))), (0, .ref 0), (1, .int v1), (2, .int v2), (3, .int v3)]) (st' := []) (σ' := q4.2) (by decide +kernel) rfl rfl rfl ?_
        obtain ⟨w4_1, e1, h⟩ := fhlet_elim h
        rw [← e1]
        refine fhW.blk fhPM fhLL hΓ [(.iinc 2 1, 1)] (pc' := 99) (lv' := [(2, .int (v2 + (1 : Int32))), (4, .int w4_1), (0, .ref 0), (1, .int v1), (3, .int v3)]) (st' := []) (σ' := q4.2) (by decide +kernel) rfl rfl rfl ?_
        refine fhW.sub (lv' := [(0, .ref 0), (1, .int v1), (2, .int (v2 + (1 : Int32))), (3, .int v3), (4, .int w4_1)]) [2, 3, 0, 4, 1] rfl ?_
        exact L_X12_chance_99 hΓ hd v1 (v2 + (1 : Int32)) v3 w4_1 q4.2 _ h hk
set_option maxRecDepth 100000 in
set_option maxHeartbeats 4000000 in
theorem L_X12_chance_E {Γ : fhX} (hΓ : fhOk fhYM 12 cX12_chance 5 (some .int) Γ) (hd : 5 ≤ fhD Γ) (v1 : Int32)  (σ : fhM) (o : Int32 × fhM) (h : f_X12_chance v1 σ = some o) (hk : (fun o => fhRet Γ (some (.int o.1)) o.2) o) : fhW fhYM Γ 0 [(0, .ref 0), (1, .int v1)] [] σ := by
  unfold f_X12_chance at h
  refine fhW.blk fhPM fhLL hΓ [(.aload_n 0, 0), (.getfield 441, 0)] (pc' := 4) (lv' := [(0, .ref 0), (1, .int v1)]) (st' := [.int (σ.1 0 47)]) (σ' := σ) (by decide +kernel) rfl rfl rfl ?_
  refine fhW.z_eq hΓ (tgt := 33) (show fhbk _ _ (.ifCond .eq (29)) _ = true by decide +kernel) (fun hc => ?_) (fun hc => ?_)
  · rw [if_pos hc] at h
    refine fhW.sub (lv' := [(0, .ref 0)]) [0] rfl ?_
    exact L_X12_chance_33 hΓ hd σ _ h hk
  · rw [if_neg hc] at h
    refine fhW.blk fhPM fhLL hΓ [(.iload_n 1, 0), (.i2l, 0), (.lconst 1, 0), (.ldc2_w 528, 0)] (pc' := 13) (lv' := [(0, .ref 0), (1, .int v1)]) (st' := [.long (20 : Int64), .long (1 : Int64), .long (Int32.toInt64 v1)]) (σ' := σ) (by decide +kernel) rfl rfl rfl ?_
    refine fhW.calls hΓ msX12_isIn ml_12_305 (av := [.long (Int32.toInt64 v1), .long (1 : Int64), .long (20 : Int64)]) (rest := []) (r := (some (.int (fhb (f_X12_isIn (Int32.toInt64 v1) (1 : Int64) (20 : Int64) σ))))) (σ' := σ) (T_X12_isIn (E := fhEn Γ) (d := fhD Γ - 1) (by omega) (Int32.toInt64 v1) (1 : Int64) (20 : Int64) σ) (by omega) (by decide +kernel) rfl (Nat.le_of_ble_eq_true rfl) rfl ?_
    show fhW fhYM Γ 16 [(0, .ref 0), (1, .int v1)] [.int (fhb (f_X12_isIn (Int32.toInt64 v1) (1 : Int64) (20 : Int64) σ))] σ
    refine fhW.b_eq hΓ (tgt := 33) (show fhbk _ _ (.ifCond .eq (17)) _ = true by decide +kernel) (fun hc => ?_) (fun hc => ?_)
    · rw [if_neg hc] at h
      refine fhW.sub (lv' := [(0, .ref 0)]) [0] rfl ?_
      exact L_X12_chance_33 hΓ hd σ _ h hk
    · rw [if_pos hc] at h
      refine fhW.blk fhPM fhLL hΓ [(.aload_n 0, 0), (.getfield 147, 0), (.iconst 0, 0), (.iaload, 0), (.iload_n 1, 0), (.iadd, 0), (.sipush 999, 999)] (pc' := 30) (lv' := [(0, .ref 0), (1, .int v1)]) (st' := [.int (999 : Int32), .int ((σ.1 44 0) + v1)]) (σ' := σ) (by decide +kernel) rfl rfl rfl ?_
      refine fhW.i_le hΓ (tgt := 39) (show fhbk _ _ (.if_icmp .le (9)) _ = true by decide +kernel) (fun hc => ?_) (fun hc => ?_)
      · rw [if_pos hc] at h
        refine fhW.blk fhPM fhLL hΓ [(.aload_n 0, 0)] (pc' := 40) (lv' := [(0, .ref 0), (1, .int v1)]) (st' := [.ref 0]) (σ' := σ) (by decide +kernel) rfl rfl rfl ?_
        obtain ⟨q1, hb5, h⟩ := Option.bind_eq_some_iff.mp h
        refine fhW.callv hΓ mvX12_keeps ml_12_564 (t := 0) (ci := 12) (av := []) (rest := []) (r := none) (σ' := q1) (T_X12_keeps (E := fhEn Γ) (d := fhD Γ - 1) (by omega) σ hb5) (by omega) (by decide +kernel) rfl rfl rfl (Nat.le_of_ble_eq_true rfl) rfl ?_
        show fhW fhYM Γ 43 [(0, .ref 0), (1, .int v1)] [] q1
        refine fhW.blk fhPM fhLL hΓ [(.iconst 0, 0), (.istore_n 2, 0), (.iconst 0, 0), (.istore_n 3, 0)] (pc' := 47) (lv' := [(3, .int (0 : Int32)), (2, .int (0 : Int32)), (0, .ref 0), (1, .int v1)]) (st' := []) (σ' := q1) (by decide +kernel) rfl rfl rfl ?_
        refine fhW.sub (lv' := [(0, .ref 0), (1, .int v1), (2, .int (0 : Int32)), (3, .int (0 : Int32))]) [2, 3, 1, 0] rfl ?_
        exact fhlp_ok (W := (fun x => fhW fhYM Γ 47 [(0, .ref 0), (1, .int v1), (2, .int x.1), (3, .int x.2.1)] [] x.2.2)) (B := (fun o => fhRet Γ (some (.int o.1)) o.2)) (fun x o h hk => L_X12_chance_47 hΓ hd v1 x.1 x.2.1 x.2.2 o h hk) ((0 : Int32), (0 : Int32), q1) _ h hk
      · rw [if_neg hc] at h
        refine fhW.sub (lv' := [(0, .ref 0)]) [0] rfl ?_
        exact L_X12_chance_33 hΓ hd σ _ h hk
set_option maxRecDepth 100000 in
theorem T_X12_chance {E : fhE} {d : Nat} (hd : 5 ≤ d) (v1 : Int32)  (σ : fhM) {o : Int32 × fhM} (h : f_X12_chance v1 σ = some o) : fhC fhYM E d miX12_chance [.ref 0, .int v1] σ (some (.int o.1)) o.2 := by
  refine fhC.of (y := yX12_chance) (cc := cX12_chance) (nL := 5) (ret := (some .int)) 12 rfl (by decide +kernel) (Nat.le_of_ble_eq_true rfl) ?_
  intro Γ hΓ hR hD hEn
  subst hD; subst hEn
  exact L_X12_chance_E hΓ hd v1  σ _ h hR
set_option maxRecDepth 100000 in
set_option maxHeartbeats 4000000 in
theorem L_X12_deal_53 {Γ : fhX} (hΓ : fhOk fhYM 12 cX12_deal 3 (some .int) Γ) (hd : 2 ≤ fhD Γ) (v1 : Int32) (v2 : Int32)  (σ : fhM) (o : (Int32 × Int32) ⊕ (Int32 × fhM)) (h : f_X12_deal_53 v1 v2 σ = some o) (hk : (fhK (fun x => fhW fhYM Γ 28 [(0, .ref 0), (1, .int x.1), (2, .int x.2)] [] σ) (fun o => fhRet Γ (some (.int o.1)) o.2)) o) : fhW fhYM Γ 53 [(0, .ref 0), (1, .int v1), (2, .int v2)] [] σ := by
  unfold f_X12_deal_53 at h
  refine fhW.blk fhPM fhLL hΓ [(.iinc 2 1, 1)] (pc' := 56) (lv' := [(2, .int (v2 + (1 : Int32))), (0, .ref 0), (1, .int v1)]) (st' := []) (σ' := σ) (by decide +kernel) rfl rfl rfl ?_
  refine fhW.goto hΓ (off := (-28)) (tgt := 28) (by decide +kernel) ?_
  refine fhW.sub (lv' := [(0, .ref 0), (1, .int v1), (2, .int (v2 + (1 : Int32)))]) [1, 2, 0] rfl ?_
  have e9 := Option.some.inj h
  subst e9
  exact hk
set_option maxRecDepth 100000 in
set_option maxHeartbeats 4000000 in
theorem L_X12_deal_41 {Γ : fhX} (hΓ : fhOk fhYM 12 cX12_deal 3 (some .int) Γ) (hd : 2 ≤ fhD Γ) (v1 : Int32) (v2 : Int32)  (σ : fhM) (o : (Int32 × Int32) ⊕ (Int32 × fhM)) (h : f_X12_deal_41 v1 v2 σ = some o) (hk : (fhK (fun x => fhW fhYM Γ 28 [(0, .ref 0), (1, .int x.1), (2, .int x.2)] [] σ) (fun o => fhRet Γ (some (.int o.1)) o.2)) o) : fhW fhYM Γ 41 [(0, .ref 0), (1, .int v1), (2, .int v2)] [] σ := by
  unfold f_X12_deal_41 at h
  obtain ⟨hg1, h⟩ := fhif h
  refine fhW.blk fhPM fhLL hΓ [(.aload_n 0, 0), (.getfield 124, 0), (.iload_n 2, 0), (.baload, 0)] (pc' := 47) (lv' := [(0, .ref 0), (1, .int v1), (2, .int v2)]) (st' := [.int (σ.1 37 (fhix v2))]) (σ' := σ) (by decide +kernel) rfl rfl hg1 ?_
  refine fhW.z_eq hΓ (tgt := 53) (show fhbk _ _ (.ifCond .eq (6)) _ = true by decide +kernel) (fun hc => ?_) (fun hc => ?_)
  · simp only [if_pos hc] at h
    refine fhW.sub (lv' := [(0, .ref 0), (1, .int v1), (2, .int v2)]) [0, 1, 2] rfl ?_
    exact L_X12_deal_53 hΓ hd v1 v2 σ _ h hk
  · simp only [if_neg hc] at h
    refine fhW.blk fhPM fhLL hΓ [(.iinc 1 (-1), -1)] (pc' := 53) (lv' := [(1, .int (v1 + (-1 : Int32))), (0, .ref 0), (2, .int v2)]) (st' := []) (σ' := σ) (by decide +kernel) rfl rfl rfl ?_
    refine fhW.sub (lv' := [(0, .ref 0), (1, .int (v1 + (-1 : Int32))), (2, .int v2)]) [1, 0, 2] rfl ?_
    exact L_X12_deal_53 hΓ hd (v1 + (-1 : Int32)) v2 σ _ h hk
set_option maxRecDepth 100000 in
set_option maxHeartbeats 4000000 in
theorem L_X12_deal_28 {Γ : fhX} (hΓ : fhOk fhYM 12 cX12_deal 3 (some .int) Γ) (hd : 2 ≤ fhD Γ) (v1 : Int32) (v2 : Int32)  (σ : fhM) (o : (Int32 × Int32) ⊕ (Int32 × fhM)) (h : f_X12_deal_28 v1 v2 σ = some o) (hk : (fhK (fun x => fhW fhYM Γ 28 [(0, .ref 0), (1, .int x.1), (2, .int x.2)] [] σ) (fun o => fhRet Γ (some (.int o.1)) o.2)) o) : fhW fhYM Γ 28 [(0, .ref 0), (1, .int v1), (2, .int v2)] [] σ := by
  unfold f_X12_deal_28 at h
  refine fhW.blk fhPM fhLL hΓ [(.iload_n 1, 0)] (pc' := 29) (lv' := [(0, .ref 0), (1, .int v1), (2, .int v2)]) (st' := [.int v1]) (σ' := σ) (by decide +kernel) rfl rfl rfl ?_
  refine fhW.z_gt hΓ (tgt := 41) (show fhbk _ _ (.ifCond .gt (12)) _ = true by decide +kernel) (fun hc => ?_) (fun hc => ?_)
  · rw [if_pos hc] at h
    refine fhW.sub (lv' := [(0, .ref 0), (1, .int v1), (2, .int v2)]) [0, 1, 2] rfl ?_
    exact L_X12_deal_41 hΓ hd v1 v2 σ _ h hk
  · rw [if_neg hc] at h
    obtain ⟨hg2, h⟩ := fhif h
    refine fhW.blk fhPM fhLL hΓ [(.aload_n 0, 0), (.getfield 124, 0), (.iload_n 2, 0), (.baload, 0)] (pc' := 38) (lv' := [(0, .ref 0), (1, .int v1), (2, .int v2)]) (st' := [.int (σ.1 37 (fhix v2))]) (σ' := σ) (by decide +kernel) rfl rfl hg2 ?_
    refine fhW.z_ne hΓ (tgt := 59) (show fhbk _ _ (.ifCond .ne (21)) _ = true by decide +kernel) (fun hc => ?_) (fun hc => ?_)
    · rw [if_neg hc] at h
      refine fhW.blk fhPM fhLL hΓ [(.aload_n 0, 0), (.iload_n 2, 0)] (pc' := 61) (lv' := [(0, .ref 0), (1, .int v1), (2, .int v2)]) (st' := [.int v2, .ref 0]) (σ' := σ) (by decide +kernel) rfl rfl rfl ?_
      obtain ⟨q4, hb1, h⟩ := Option.bind_eq_some_iff.mp h
      refine fhW.callv hΓ mvX12_isWorn ml_12_573 (t := 0) (ci := 12) (av := [.int v2]) (rest := []) (r := none) (σ' := q4) (T_X12_isWorn (E := fhEn Γ) (d := fhD Γ - 1) (by omega) v2 σ hb1) (by omega) (by decide +kernel) rfl rfl rfl (Nat.le_of_ble_eq_true rfl) rfl ?_
      show fhW fhYM Γ 64 [(0, .ref 0), (1, .int v1), (2, .int v2)] [] q4
      refine fhW.blk fhPM fhLL hΓ [(.iload_n 2, 0)] (pc' := 65) (lv' := [(0, .ref 0), (1, .int v1), (2, .int v2)]) (st' := [.int v2]) (σ' := q4) (by decide +kernel) rfl rfl rfl ?_
      have e9 := Option.some.inj h
      subst e9
      exact fhW.iret hΓ (by decide +kernel) hk
    · rw [if_pos hc] at h
      refine fhW.sub (lv' := [(0, .ref 0), (1, .int v1), (2, .int v2)]) [0, 1, 2] rfl ?_
      exact L_X12_deal_41 hΓ hd v1 v2 σ _ h hk
set_option maxRecDepth 100000 in
set_option maxHeartbeats 4000000 in
theorem L_X12_deal_E {Γ : fhX} (hΓ : fhOk fhYM 12 cX12_deal 3 (some .int) Γ) (hd : 2 ≤ fhD Γ)   (σ : fhM) (o : Int32 × fhM) (h : f_X12_deal σ = some o) (hk : (fun o => fhRet Γ (some (.int o.1)) o.2) o) : fhW fhYM Γ 0 [(0, .ref 0)] [] σ := by
  unfold f_X12_deal at h
  refine fhW.blk fhPM fhLL hΓ [(.aload_n 0, 0), (.getfield 441, 0)] (pc' := 4) (lv' := [(0, .ref 0)]) (st' := [.int (σ.1 0 47)]) (σ' := σ) (by decide +kernel) rfl rfl rfl ?_
  refine fhW.z_ne hΓ (tgt := 13) (show fhbk _ _ (.ifCond .ne (9)) _ = true by decide +kernel) (fun hc => ?_) (fun hc => ?_)
  · rw [if_neg hc] at h
    refine fhW.blk fhPM fhLL hΓ [(.aload_n 0, 0)] (pc' := 14) (lv' := [(0, .ref 0)]) (st' := [.ref 0]) (σ' := σ) (by decide +kernel) rfl rfl rfl ?_
    obtain ⟨q1, hb2, h⟩ := Option.bind_eq_some_iff.mp h
    refine fhW.callv hΓ mvX12_keeps ml_12_564 (t := 0) (ci := 12) (av := []) (rest := []) (r := none) (σ' := q1) (T_X12_keeps (E := fhEn Γ) (d := fhD Γ - 1) (by omega) σ hb2) (by omega) (by decide +kernel) rfl rfl rfl (Nat.le_of_ble_eq_true rfl) rfl ?_
    show fhW fhYM Γ 17 [(0, .ref 0)] [] q1
    refine fhW.blk fhPM fhLL hΓ [(.aload_n 0, 0), (.aload_n 0, 0), (.getfield 438, 0)] (pc' := 22) (lv' := [(0, .ref 0)]) (st' := [.int (q1.1 0 53), .ref 0]) (σ' := q1) (by decide +kernel) rfl rfl rfl ?_
    obtain ⟨q2, hb3, h⟩ := Option.bind_eq_some_iff.mp h
    refine fhW.callv hΓ mvX12_drawOf ml_12_584 (t := 0) (ci := 12) (av := [.int (q1.1 0 53)]) (rest := []) (r := (some (.int q2.1))) (σ' := q2.2) (T_X12_drawOf (E := fhEn Γ) (d := fhD Γ - 1) (by omega) (q1.1 0 53) q1 hb3) (by omega) (by decide +kernel) rfl rfl rfl (Nat.le_of_ble_eq_true rfl) rfl ?_
    show fhW fhYM Γ 25 [(0, .ref 0)] [.int q2.1] q2.2
    refine fhW.blk fhPM fhLL hΓ [(.istore_n 1, 0), (.iconst 0, 0), (.istore_n 2, 0)] (pc' := 28) (lv' := [(2, .int (0 : Int32)), (1, .int q2.1), (0, .ref 0)]) (st' := []) (σ' := q2.2) (by decide +kernel) rfl rfl rfl ?_
    refine fhW.sub (lv' := [(0, .ref 0), (1, .int q2.1), (2, .int (0 : Int32))]) [2, 1, 0] rfl ?_
    exact fhlp_ok (W := (fun x => fhW fhYM Γ 28 [(0, .ref 0), (1, .int x.1), (2, .int x.2)] [] q2.2)) (B := (fun o => fhRet Γ (some (.int o.1)) o.2)) (fun x o h hk => L_X12_deal_28 hΓ hd x.1 x.2 q2.2 o h hk) (q2.1, (0 : Int32)) _ h hk
  · rw [if_pos hc] at h
    refine fhW.blk fhPM fhLL hΓ [(.aload_n 0, 0), (.iconst 3, 3)] (pc' := 9) (lv' := [(0, .ref 0)]) (st' := [.int (3 : Int32), .ref 0]) (σ' := σ) (by decide +kernel) rfl rfl rfl ?_
    obtain ⟨q3, hb4, h⟩ := Option.bind_eq_some_iff.mp h
    refine fhW.callv hΓ mvX12_refuses ml_12_416 (t := 0) (ci := 12) (av := [.int (3 : Int32)]) (rest := []) (r := (some (.int q3.1))) (σ' := q3.2) (T_X12_refuses (E := fhEn Γ) (d := fhD Γ - 1) (by omega) (3 : Int32) σ hb4) (by omega) (by decide +kernel) rfl rfl rfl (Nat.le_of_ble_eq_true rfl) rfl ?_
    show fhW fhYM Γ 12 [(0, .ref 0)] [.int q3.1] q3.2
    have e9 := Option.some.inj h
    subst e9
    exact fhW.iret hΓ (by decide +kernel) hk
set_option maxRecDepth 100000 in
theorem T_X12_deal {E : fhE} {d : Nat} (hd : 2 ≤ d)   (σ : fhM) {o : Int32 × fhM} (h : f_X12_deal σ = some o) : fhC fhYM E d miX12_deal [.ref 0] σ (some (.int o.1)) o.2 := by
  refine fhC.of (y := yX12_deal) (cc := cX12_deal) (nL := 3) (ret := (some .int)) 12 rfl (by decide +kernel) (Nat.le_of_ble_eq_true rfl) ?_
  intro Γ hΓ hR hD hEn
  subst hD; subst hEn
  exact L_X12_deal_E hΓ hd   σ _ h hR
set_option maxRecDepth 100000 in
set_option maxHeartbeats 4000000 in
theorem L_X12_qKind_76 {Γ : fhX} (hΓ : fhOk fhYM 12 cX12_qKind 2 (some .int) Γ) (hd : 4 ≤ fhD Γ) (s0 : Int32)  (σ : fhM) (o : Int32 × fhM) (h : f_X12_qKind_76 s0 σ = some o) (hk : (fun o => fhRet Γ (some (.int o.1)) o.2) o) : fhW fhYM Γ 76 [(0, .ref 0)] [.int s0] σ := by
  unfold f_X12_qKind_76 at h
  refine fhW.blk fhPM fhLL hΓ [(.istore_n 1, 0), (.iload_n 1, 0), (.iconst 5, 5)] (pc' := 79) (lv' := [(1, .int s0), (0, .ref 0)]) (st' := [.int (5 : Int32), .int s0]) (σ' := σ) (by decide +kernel) rfl rfl rfl ?_
  refine fhW.i_ne hΓ (tgt := 90) (show fhbk _ _ (.if_icmp .ne (11)) _ = true by decide +kernel) (fun hc => ?_) (fun hc => ?_)
  · rw [if_neg hc] at h
    refine fhW.blk fhPM fhLL hΓ [(.iload_n 1, 0)] (pc' := 91) (lv' := [(1, .int s0), (0, .ref 0)]) (st' := [.int s0]) (σ' := σ) (by decide +kernel) rfl rfl rfl ?_
    have e9 := Option.some.inj h
    subst e9
    exact fhW.iret hΓ (by decide +kernel) hk
  · rw [if_pos hc] at h
    refine fhW.blk fhPM fhLL hΓ [(.aload_n 0, 0), (.aload_n 0, 0), (.getfield 190, 0)] (pc' := 87) (lv' := [(1, .int s0), (0, .ref 0)]) (st' := [.ref 57, .ref 0]) (σ' := σ) (by decide +kernel) rfl rfl rfl ?_
    obtain ⟨q6, hb1, h⟩ := Option.bind_eq_some_iff.mp h
    refine fhW.callv hΓ mvX12_asks ml_12_327 (t := 0) (ci := 12) (av := [.ref 57]) (rest := []) (r := none) (σ' := q6) (T_X12_asks (E := fhEn Γ) (d := fhD Γ - 1) (by omega) 57 rfl σ hb1) (by omega) (by decide +kernel) rfl rfl rfl (Nat.le_of_ble_eq_true rfl) rfl ?_
    show fhW fhYM Γ 90 [(1, .int s0), (0, .ref 0)] [] q6
    refine fhW.blk fhPM fhLL hΓ [(.iload_n 1, 0)] (pc' := 91) (lv' := [(1, .int s0), (0, .ref 0)]) (st' := [.int s0]) (σ' := q6) (by decide +kernel) rfl rfl rfl ?_
    have e9 := Option.some.inj h
    subst e9
    exact fhW.iret hΓ (by decide +kernel) hk
set_option maxRecDepth 100000 in
set_option maxHeartbeats 4000000 in
theorem L_X12_qKind_E {Γ : fhX} (hΓ : fhOk fhYM 12 cX12_qKind 2 (some .int) Γ) (hd : 4 ≤ fhD Γ)   (σ : fhM) (o : Int32 × fhM) (h : f_X12_qKind σ = some o) (hk : (fun o => fhRet Γ (some (.int o.1)) o.2) o) : fhW fhYM Γ 0 [(0, .ref 0)] [] σ := by
  unfold f_X12_qKind at h
  refine fhW.blk fhPM fhLL hΓ [(.aload_n 0, 0), (.aload_n 0, 0), (.getfield 175, 0)] (pc' := 5) (lv' := [(0, .ref 0)]) (st' := [.ref 52, .ref 0]) (σ' := σ) (by decide +kernel) rfl rfl rfl ?_
  obtain ⟨q1, hb2, h⟩ := Option.bind_eq_some_iff.mp h
  refine fhW.callv hΓ mvX12_takes ml_12_289 (t := 0) (ci := 12) (av := [.ref 52]) (rest := []) (r := (some (.int (fhb q1.1)))) (σ' := q1.2) (T_X12_takes (E := fhEn Γ) (d := fhD Γ - 1) (by omega) 52 rfl σ hb2) (by omega) (by decide +kernel) rfl rfl rfl (Nat.le_of_ble_eq_true rfl) rfl ?_
  show fhW fhYM Γ 8 [(0, .ref 0)] [.int (fhb q1.1)] q1.2
  refine fhW.b_eq hΓ (tgt := 15) (show fhbk _ _ (.ifCond .eq (7)) _ = true by decide +kernel) (fun hc => ?_) (fun hc => ?_)
  · rw [if_neg hc] at h
    refine fhW.blk fhPM fhLL hΓ [(.aload_n 0, 0), (.aload_n 0, 0), (.getfield 178, 0)] (pc' := 20) (lv' := [(0, .ref 0)]) (st' := [.ref 53, .ref 0]) (σ' := q1.2) (by decide +kernel) rfl rfl rfl ?_
    obtain ⟨q2, hb3, h⟩ := Option.bind_eq_some_iff.mp h
    refine fhW.callv hΓ mvX12_takes ml_12_289 (t := 0) (ci := 12) (av := [.ref 53]) (rest := []) (r := (some (.int (fhb q2.1)))) (σ' := q2.2) (T_X12_takes (E := fhEn Γ) (d := fhD Γ - 1) (by omega) 53 rfl q1.2 hb3) (by omega) (by decide +kernel) rfl rfl rfl (Nat.le_of_ble_eq_true rfl) rfl ?_
    show fhW fhYM Γ 23 [(0, .ref 0)] [.int (fhb q2.1)] q2.2
    refine fhW.b_eq hΓ (tgt := 30) (show fhbk _ _ (.ifCond .eq (7)) _ = true by decide +kernel) (fun hc => ?_) (fun hc => ?_)
    · rw [if_neg hc] at h
      refine fhW.blk fhPM fhLL hΓ [(.aload_n 0, 0), (.aload_n 0, 0), (.getfield 181, 0)] (pc' := 35) (lv' := [(0, .ref 0)]) (st' := [.ref 54, .ref 0]) (σ' := q2.2) (by decide +kernel) rfl rfl rfl ?_
      obtain ⟨q3, hb4, h⟩ := Option.bind_eq_some_iff.mp h
      refine fhW.callv hΓ mvX12_takes ml_12_289 (t := 0) (ci := 12) (av := [.ref 54]) (rest := []) (r := (some (.int (fhb q3.1)))) (σ' := q3.2) (T_X12_takes (E := fhEn Γ) (d := fhD Γ - 1) (by omega) 54 rfl q2.2 hb4) (by omega) (by decide +kernel) rfl rfl rfl (Nat.le_of_ble_eq_true rfl) rfl ?_
      show fhW fhYM Γ 38 [(0, .ref 0)] [.int (fhb q3.1)] q3.2
      refine fhW.b_eq hΓ (tgt := 45) (show fhbk _ _ (.ifCond .eq (7)) _ = true by decide +kernel) (fun hc => ?_) (fun hc => ?_)
      · rw [if_neg hc] at h
        refine fhW.blk fhPM fhLL hΓ [(.aload_n 0, 0), (.aload_n 0, 0), (.getfield 184, 0)] (pc' := 50) (lv' := [(0, .ref 0)]) (st' := [.ref 55, .ref 0]) (σ' := q3.2) (by decide +kernel) rfl rfl rfl ?_
        obtain ⟨q4, hb5, h⟩ := Option.bind_eq_some_iff.mp h
        refine fhW.callv hΓ mvX12_takes ml_12_289 (t := 0) (ci := 12) (av := [.ref 55]) (rest := []) (r := (some (.int (fhb q4.1)))) (σ' := q4.2) (T_X12_takes (E := fhEn Γ) (d := fhD Γ - 1) (by omega) 55 rfl q3.2 hb5) (by omega) (by decide +kernel) rfl rfl rfl (Nat.le_of_ble_eq_true rfl) rfl ?_
        show fhW fhYM Γ 53 [(0, .ref 0)] [.int (fhb q4.1)] q4.2
        refine fhW.b_eq hΓ (tgt := 60) (show fhbk _ _ (.ifCond .eq (7)) _ = true by decide +kernel) (fun hc => ?_) (fun hc => ?_)
        · rw [if_neg hc] at h
          refine fhW.blk fhPM fhLL hΓ [(.aload_n 0, 0), (.aload_n 0, 0), (.getfield 187, 0)] (pc' := 65) (lv' := [(0, .ref 0)]) (st' := [.ref 56, .ref 0]) (σ' := q4.2) (by decide +kernel) rfl rfl rfl ?_
          obtain ⟨q5, hb6, h⟩ := Option.bind_eq_some_iff.mp h
          refine fhW.callv hΓ mvX12_takes ml_12_289 (t := 0) (ci := 12) (av := [.ref 56]) (rest := []) (r := (some (.int (fhb q5.1)))) (σ' := q5.2) (T_X12_takes (E := fhEn Γ) (d := fhD Γ - 1) (by omega) 56 rfl q4.2 hb6) (by omega) (by decide +kernel) rfl rfl rfl (Nat.le_of_ble_eq_true rfl) rfl ?_
          show fhW fhYM Γ 68 [(0, .ref 0)] [.int (fhb q5.1)] q5.2
          refine fhW.b_eq hΓ (tgt := 75) (show fhbk _ _ (.ifCond .eq (7)) _ = true by decide +kernel) (fun hc => ?_) (fun hc => ?_)
          · simp only [if_neg hc] at h
            refine fhW.blk fhPM fhLL hΓ [(.iconst 5, 5)] (pc' := 76) (lv' := [(0, .ref 0)]) (st' := [.int (5 : Int32)]) (σ' := q5.2) (by decide +kernel) rfl rfl rfl ?_
            refine fhW.sub (lv' := [(0, .ref 0)]) [0] rfl ?_
            exact L_X12_qKind_76 hΓ hd (5 : Int32) q5.2 _ h hk
          · simp only [if_pos hc] at h
            refine fhW.blk fhPM fhLL hΓ [(.iconst 4, 4)] (pc' := 72) (lv' := [(0, .ref 0)]) (st' := [.int (4 : Int32)]) (σ' := q5.2) (by decide +kernel) rfl rfl rfl ?_
            refine fhW.goto hΓ (off := 4) (tgt := 76) (by decide +kernel) ?_
            refine fhW.sub (lv' := [(0, .ref 0)]) [0] rfl ?_
            exact L_X12_qKind_76 hΓ hd (4 : Int32) q5.2 _ h hk
        · rw [if_pos hc] at h
          refine fhW.blk fhPM fhLL hΓ [(.iconst 3, 3)] (pc' := 57) (lv' := [(0, .ref 0)]) (st' := [.int (3 : Int32)]) (σ' := q4.2) (by decide +kernel) rfl rfl rfl ?_
          refine fhW.goto hΓ (off := 19) (tgt := 76) (by decide +kernel) ?_
          refine fhW.sub (lv' := [(0, .ref 0)]) [0] rfl ?_
          exact L_X12_qKind_76 hΓ hd (3 : Int32) q4.2 _ h hk
      · rw [if_pos hc] at h
        refine fhW.blk fhPM fhLL hΓ [(.iconst 2, 2)] (pc' := 42) (lv' := [(0, .ref 0)]) (st' := [.int (2 : Int32)]) (σ' := q3.2) (by decide +kernel) rfl rfl rfl ?_
        refine fhW.goto hΓ (off := 34) (tgt := 76) (by decide +kernel) ?_
        refine fhW.sub (lv' := [(0, .ref 0)]) [0] rfl ?_
        exact L_X12_qKind_76 hΓ hd (2 : Int32) q3.2 _ h hk
    · rw [if_pos hc] at h
      refine fhW.blk fhPM fhLL hΓ [(.iconst 1, 1)] (pc' := 27) (lv' := [(0, .ref 0)]) (st' := [.int (1 : Int32)]) (σ' := q2.2) (by decide +kernel) rfl rfl rfl ?_
      refine fhW.goto hΓ (off := 49) (tgt := 76) (by decide +kernel) ?_
      refine fhW.sub (lv' := [(0, .ref 0)]) [0] rfl ?_
      exact L_X12_qKind_76 hΓ hd (1 : Int32) q2.2 _ h hk
  · rw [if_pos hc] at h
    refine fhW.blk fhPM fhLL hΓ [(.iconst 0, 0)] (pc' := 12) (lv' := [(0, .ref 0)]) (st' := [.int (0 : Int32)]) (σ' := q1.2) (by decide +kernel) rfl rfl rfl ?_
    refine fhW.goto hΓ (off := 64) (tgt := 76) (by decide +kernel) ?_
    refine fhW.sub (lv' := [(0, .ref 0)]) [0] rfl ?_
    exact L_X12_qKind_76 hΓ hd (0 : Int32) q1.2 _ h hk
set_option maxRecDepth 100000 in
theorem T_X12_qKind {E : fhE} {d : Nat} (hd : 4 ≤ d)   (σ : fhM) {o : Int32 × fhM} (h : f_X12_qKind σ = some o) : fhC fhYM E d miX12_qKind [.ref 0] σ (some (.int o.1)) o.2 := by
  refine fhC.of (y := yX12_qKind) (cc := cX12_qKind) (nL := 2) (ret := (some .int)) 12 rfl (by decide +kernel) (Nat.le_of_ble_eq_true rfl) ?_
  intro Γ hΓ hR hD hEn
  subst hD; subst hEn
  exact L_X12_qKind_E hΓ hd   σ _ h hR
set_option maxRecDepth 100000 in
set_option maxHeartbeats 4000000 in
theorem L_X12_qTakes_133 {Γ : fhX} (hΓ : fhOk fhYM 12 cX12_qTakes 6 none Γ) (hd : 0 ≤ fhD Γ)   (σ : fhM) (o : fhM) (h : f_X12_qTakes_133 σ = o) (hk : (fun o => fhRet Γ none o) o) : fhW fhYM Γ 133 [(0, .ref 0)] [] σ := by
  unfold f_X12_qTakes_133 at h
  refine fhW.blk fhPM fhLL hΓ [(.aload_n 0, 0), (.iconst 0, 0), (.putfield 694, 0)] (pc' := 138) (lv' := [(0, .ref 0)]) (st' := []) (σ' := (fhI σ 0 107 (0 : Int32))) (by decide +kernel) rfl rfl rfl ?_
  subst h
  exact fhW.vret hΓ (by decide +kernel) hk
set_option maxRecDepth 100000 in
set_option maxHeartbeats 4000000 in
theorem L_X12_qTakes_128 {Γ : fhX} (hΓ : fhOk fhYM 12 cX12_qTakes 6 none Γ) (hd : 0 ≤ fhD Γ) (v2 : Int64)  (σ : fhM) (o : fhM) (h : f_X12_qTakes_128 v2 σ = o) (hk : (fun o => fhRet Γ none o) o) : fhW fhYM Γ 128 [(0, .ref 0), (2, .long v2)] [] σ := by
  unfold f_X12_qTakes_128 at h
  refine fhW.blk fhPM fhLL hΓ [(.aload_n 0, 0), (.lload_n 2, 0), (.putfield 689, 0)] (pc' := 133) (lv' := [(0, .ref 0), (2, .long v2)]) (st' := []) (σ' := (fhJ σ 0 106 v2)) (by decide +kernel) rfl rfl rfl ?_
  refine fhW.sub (lv' := [(0, .ref 0)]) [0] rfl ?_
  exact L_X12_qTakes_133 hΓ hd (fhJ σ 0 106 v2) _ h hk
set_option maxRecDepth 100000 in
set_option maxHeartbeats 4000000 in
theorem L_X12_qTakes_90 {Γ : fhX} (hΓ : fhOk fhYM 12 cX12_qTakes 6 none Γ) (hd : 0 ≤ fhD Γ) (v1 : Int32) (v2 : Int64)  (σ : fhM) (o : fhM) (h : f_X12_qTakes_90 v1 v2 σ = o) (hk : (fun o => fhRet Γ none o) o) : fhW fhYM Γ 90 [(0, .ref 0), (1, .int v1), (2, .long v2)] [] σ := by
  unfold f_X12_qTakes_90 at h
  refine fhW.blk fhPM fhLL hΓ [(.iload_n 1, 0), (.iconst 3, 3)] (pc' := 92) (lv' := [(0, .ref 0), (1, .int v1), (2, .long v2)]) (st' := [.int (3 : Int32), .int v1]) (σ' := σ) (by decide +kernel) rfl rfl rfl ?_
  refine fhW.i_le hΓ (tgt := 133) (show fhbk _ _ (.if_icmp .le (41)) _ = true by decide +kernel) (fun hc => ?_) (fun hc => ?_)
  · rw [if_pos hc] at h
    refine fhW.sub (lv' := [(0, .ref 0)]) [0] rfl ?_
    exact L_X12_qTakes_133 hΓ hd σ _ h hk
  · rw [if_neg hc] at h
    refine fhW.blk fhPM fhLL hΓ [(.aload_n 0, 0), (.getfield 694, 0)] (pc' := 99) (lv' := [(0, .ref 0), (1, .int v1), (2, .long v2)]) (st' := [.int (σ.1 0 107)]) (σ' := σ) (by decide +kernel) rfl rfl rfl ?_
    refine fhW.z_ne hΓ (tgt := 128) (show fhbk _ _ (.ifCond .ne (29)) _ = true by decide +kernel) (fun hc => ?_) (fun hc => ?_)
    · rw [if_neg hc] at h
      refine fhW.sub (lv' := [(0, .ref 0), (2, .long v2)]) [0, 2] rfl ?_
      exact L_X12_qTakes_128 hΓ hd v2 σ _ h hk
    · rw [if_pos hc] at h
      refine fhW.blk fhPM fhLL hΓ [(.iload_n 1, 0), (.iconst 4, 4)] (pc' := 104) (lv' := [(0, .ref 0), (1, .int v1), (2, .long v2)]) (st' := [.int (4 : Int32), .int v1]) (σ' := σ) (by decide +kernel) rfl rfl rfl ?_
      refine fhW.i_ne hΓ (tgt := 119) (show fhbk _ _ (.if_icmp .ne (15)) _ = true by decide +kernel) (fun hc => ?_) (fun hc => ?_)
      · rw [if_neg hc] at h
        refine fhW.blk fhPM fhLL hΓ [(.lload_n 2, 0), (.aload_n 0, 0), (.getfield 689, 0), (.lcmp, 0)] (pc' := 125) (lv' := [(0, .ref 0), (1, .int v1), (2, .long v2)]) (st' := [.int (lg_cmp v2 (σ.2.1 0 106))]) (σ' := σ) (by decide +kernel) rfl rfl rfl ?_
        refine fhW.z_ge hΓ (tgt := 133) (show fhbk _ _ (.ifCond .ge (8)) _ = true by decide +kernel) (fun hc => ?_) (fun hc => ?_)
        · rw [if_pos hc] at h
          refine fhW.sub (lv' := [(0, .ref 0)]) [0] rfl ?_
          exact L_X12_qTakes_133 hΓ hd σ _ h hk
        · rw [if_neg hc] at h
          refine fhW.sub (lv' := [(0, .ref 0), (2, .long v2)]) [0, 2] rfl ?_
          exact L_X12_qTakes_128 hΓ hd v2 σ _ h hk
      · rw [if_pos hc] at h
        refine fhW.blk fhPM fhLL hΓ [(.lload_n 2, 0), (.aload_n 0, 0), (.getfield 689, 0), (.lcmp, 0)] (pc' := 113) (lv' := [(0, .ref 0), (1, .int v1), (2, .long v2)]) (st' := [.int (lg_cmp v2 (σ.2.1 0 106))]) (σ' := σ) (by decide +kernel) rfl rfl rfl ?_
        refine fhW.z_le hΓ (tgt := 133) (show fhbk _ _ (.ifCond .le (20)) _ = true by decide +kernel) (fun hc => ?_) (fun hc => ?_)
        · rw [if_pos hc] at h
          refine fhW.sub (lv' := [(0, .ref 0)]) [0] rfl ?_
          exact L_X12_qTakes_133 hΓ hd σ _ h hk
        · rw [if_neg hc] at h
          refine fhW.goto hΓ (off := 12) (tgt := 128) (by decide +kernel) ?_
          refine fhW.sub (lv' := [(0, .ref 0), (2, .long v2)]) [0, 2] rfl ?_
          exact L_X12_qTakes_128 hΓ hd v2 σ _ h hk
set_option maxRecDepth 100000 in
set_option maxHeartbeats 4000000 in
theorem L_X12_qTakes_75 {Γ : fhX} (hΓ : fhOk fhYM 12 cX12_qTakes 6 none Γ) (hd : 0 ≤ fhD Γ) (v1 : Int32) (v2 : Int64)  (σ : fhM) (o : fhM) (h : f_X12_qTakes_75 v1 v2 σ = o) (hk : (fun o => fhRet Γ none o) o) : fhW fhYM Γ 75 [(0, .ref 0), (1, .int v1), (2, .long v2)] [] σ := by
  unfold f_X12_qTakes_75 at h
  refine fhW.blk fhPM fhLL hΓ [(.iload_n 1, 0), (.iconst 3, 3)] (pc' := 77) (lv' := [(0, .ref 0), (1, .int v1), (2, .long v2)]) (st' := [.int (3 : Int32), .int v1]) (σ' := σ) (by decide +kernel) rfl rfl rfl ?_
  refine fhW.i_ne hΓ (tgt := 90) (show fhbk _ _ (.if_icmp .ne (13)) _ = true by decide +kernel) (fun hc => ?_) (fun hc => ?_)
  · rw [if_neg hc] at h
    refine fhW.sub (lv' := [(0, .ref 0), (1, .int v1), (2, .long v2)]) [0, 1, 2] rfl ?_
    exact L_X12_qTakes_90 hΓ hd v1 v2 σ _ h hk
  · rw [if_pos hc] at h
    refine fhW.blk fhPM fhLL hΓ [(.aload_n 0, 0), (.dup, 0), (.getfield 689, 0), (.lload_n 2, 0), (.ladd, 0), (.putfield 689, 0)] (pc' := 90) (lv' := [(0, .ref 0), (1, .int v1), (2, .long v2)]) (st' := []) (σ' := (fhJ σ 0 106 ((σ.2.1 0 106) + v2))) (by decide +kernel) rfl rfl rfl ?_
    refine fhW.sub (lv' := [(0, .ref 0), (1, .int v1), (2, .long v2)]) [0, 1, 2] rfl ?_
    exact L_X12_qTakes_90 hΓ hd v1 v2 (fhJ σ 0 106 ((σ.2.1 0 106) + v2)) _ h hk
set_option maxRecDepth 100000 in
set_option maxHeartbeats 4000000 in
theorem L_X12_qTakes_55 {Γ : fhX} (hΓ : fhOk fhYM 12 cX12_qTakes 6 none Γ) (hd : 0 ≤ fhD Γ) (v1 : Int32) (v2 : Int64) (v5 : Int32)  (σ : fhM) (o : fhM) (h : f_X12_qTakes_55 v1 v2 v5 σ = o) (hk : (fun o => fhRet Γ none o) o) : fhW fhYM Γ 55 [(0, .ref 0), (1, .int v1), (2, .long v2), (5, .int v5)] [] σ := by
  unfold f_X12_qTakes_55 at h
  refine fhW.blk fhPM fhLL hΓ [(.iload_n 1, 0), (.iconst 2, 2)] (pc' := 57) (lv' := [(0, .ref 0), (1, .int v1), (2, .long v2), (5, .int v5)]) (st' := [.int (2 : Int32), .int v1]) (σ' := σ) (by decide +kernel) rfl rfl rfl ?_
  refine fhW.i_ne hΓ (tgt := 75) (show fhbk _ _ (.if_icmp .ne (18)) _ = true by decide +kernel) (fun hc => ?_) (fun hc => ?_)
  · rw [if_neg hc] at h
    refine fhW.sub (lv' := [(0, .ref 0), (1, .int v1), (2, .long v2)]) [0, 1, 2] rfl ?_
    exact L_X12_qTakes_75 hΓ hd v1 v2 σ _ h hk
  · rw [if_pos hc] at h
    refine fhW.blk fhPM fhLL hΓ [(.iload 5, 0)] (pc' := 62) (lv' := [(0, .ref 0), (1, .int v1), (2, .long v2), (5, .int v5)]) (st' := [.int v5]) (σ' := σ) (by decide +kernel) rfl rfl rfl ?_
    refine fhW.z_eq hΓ (tgt := 75) (show fhbk _ _ (.ifCond .eq (13)) _ = true by decide +kernel) (fun hc => ?_) (fun hc => ?_)
    · rw [if_pos hc] at h
      refine fhW.sub (lv' := [(0, .ref 0), (1, .int v1), (2, .long v2)]) [0, 1, 2] rfl ?_
      exact L_X12_qTakes_75 hΓ hd v1 v2 σ _ h hk
    · rw [if_neg hc] at h
      refine fhW.blk fhPM fhLL hΓ [(.aload_n 0, 0), (.dup, 0), (.getfield 689, 0), (.lconst 1, 0), (.ladd, 0), (.putfield 689, 0)] (pc' := 75) (lv' := [(0, .ref 0), (1, .int v1), (2, .long v2), (5, .int v5)]) (st' := []) (σ' := (fhJ σ 0 106 ((σ.2.1 0 106) + (1 : Int64)))) (by decide +kernel) rfl rfl rfl ?_
      refine fhW.sub (lv' := [(0, .ref 0), (1, .int v1), (2, .long v2)]) [0, 1, 2] rfl ?_
      exact L_X12_qTakes_75 hΓ hd v1 v2 (fhJ σ 0 106 ((σ.2.1 0 106) + (1 : Int64))) _ h hk
set_option maxRecDepth 100000 in
set_option maxHeartbeats 4000000 in
theorem L_X12_qTakes_48 {Γ : fhX} (hΓ : fhOk fhYM 12 cX12_qTakes 6 none Γ) (hd : 0 ≤ fhD Γ) (v1 : Int32) (v2 : Int64) (v4 : Int32) (v5 : Int32)  (σ : fhM) (o : fhM) (h : f_X12_qTakes_48 v1 v2 v4 v5 σ = o) (hk : (fun o => fhRet Γ none o) o) : fhW fhYM Γ 48 [(0, .ref 0), (1, .int v1), (2, .long v2), (4, .int v4), (5, .int v5)] [] σ := by
  unfold f_X12_qTakes_48 at h
  refine fhW.blk fhPM fhLL hΓ [(.aload_n 0, 0), (.iload 4, 0), (.i2l, 0), (.putfield 689, 0)] (pc' := 55) (lv' := [(0, .ref 0), (1, .int v1), (2, .long v2), (4, .int v4), (5, .int v5)]) (st' := []) (σ' := (fhJ σ 0 106 (Int32.toInt64 v4))) (by decide +kernel) rfl rfl rfl ?_
  refine fhW.sub (lv' := [(0, .ref 0), (1, .int v1), (2, .long v2), (5, .int v5)]) [0, 1, 2, 4] rfl ?_
  exact L_X12_qTakes_55 hΓ hd v1 v2 v5 (fhJ σ 0 106 (Int32.toInt64 v4)) _ h hk
set_option maxRecDepth 100000 in
set_option maxHeartbeats 4000000 in
theorem L_X12_qTakes_38 {Γ : fhX} (hΓ : fhOk fhYM 12 cX12_qTakes 6 none Γ) (hd : 0 ≤ fhD Γ) (v1 : Int32) (v2 : Int64) (v4 : Int32) (v5 : Int32)  (σ : fhM) (o : fhM) (h : f_X12_qTakes_38 v1 v2 v4 v5 σ = o) (hk : (fun o => fhRet Γ none o) o) : fhW fhYM Γ 38 [(0, .ref 0), (1, .int v1), (2, .long v2), (4, .int v4), (5, .int v5)] [] σ := by
  unfold f_X12_qTakes_38 at h
  refine fhW.blk fhPM fhLL hΓ [(.iload_n 1, 0), (.iconst 1, 1)] (pc' := 40) (lv' := [(0, .ref 0), (1, .int v1), (2, .long v2), (4, .int v4), (5, .int v5)]) (st' := [.int (1 : Int32), .int v1]) (σ' := σ) (by decide +kernel) rfl rfl rfl ?_
  refine fhW.i_ne hΓ (tgt := 55) (show fhbk _ _ (.if_icmp .ne (15)) _ = true by decide +kernel) (fun hc => ?_) (fun hc => ?_)
  · rw [if_neg hc] at h
    refine fhW.sub (lv' := [(0, .ref 0), (1, .int v1), (2, .long v2), (5, .int v5)]) [0, 1, 2, 4] rfl ?_
    exact L_X12_qTakes_55 hΓ hd v1 v2 v5 σ _ h hk
  · rw [if_pos hc] at h
    refine fhW.blk fhPM fhLL hΓ [(.iload 5, 0)] (pc' := 45) (lv' := [(0, .ref 0), (1, .int v1), (2, .long v2), (4, .int v4), (5, .int v5)]) (st' := [.int v5]) (σ' := σ) (by decide +kernel) rfl rfl rfl ?_
    refine fhW.z_eq hΓ (tgt := 55) (show fhbk _ _ (.ifCond .eq (10)) _ = true by decide +kernel) (fun hc => ?_) (fun hc => ?_)
    · rw [if_pos hc] at h
      refine fhW.sub (lv' := [(0, .ref 0), (1, .int v1), (2, .long v2), (5, .int v5)]) [0, 1, 2, 4] rfl ?_
      exact L_X12_qTakes_55 hΓ hd v1 v2 v5 σ _ h hk
    · rw [if_neg hc] at h
      refine fhW.sub (lv' := [(0, .ref 0), (1, .int v1), (2, .long v2), (4, .int v4), (5, .int v5)]) [0, 1, 2, 3, 4] rfl ?_
      exact L_X12_qTakes_48 hΓ hd v1 v2 v4 v5 σ _ h hk
set_option maxRecDepth 100000 in
set_option maxHeartbeats 4000000 in
theorem L_X12_qTakes_16 {Γ : fhX} (hΓ : fhOk fhYM 12 cX12_qTakes 6 none Γ) (hd : 0 ≤ fhD Γ) (v1 : Int32) (v2 : Int64) (v4 : Int32) (s0 : Int32)  (σ : fhM) (o : fhM) (h : f_X12_qTakes_16 v1 v2 v4 s0 σ = o) (hk : (fun o => fhRet Γ none o) o) : fhW fhYM Γ 16 [(0, .ref 0), (1, .int v1), (2, .long v2), (4, .int v4)] [.int s0] σ := by
  unfold f_X12_qTakes_16 at h
  refine fhW.blk fhPM fhLL hΓ [(.istore 5, 0), (.iload_n 1, 0)] (pc' := 19) (lv' := [(5, .int s0), (0, .ref 0), (1, .int v1), (2, .long v2), (4, .int v4)]) (st' := [.int v1]) (σ' := σ) (by decide +kernel) rfl rfl rfl ?_
  refine fhW.z_ne hΓ (tgt := 38) (show fhbk _ _ (.ifCond .ne (19)) _ = true by decide +kernel) (fun hc => ?_) (fun hc => ?_)
  · rw [if_neg hc] at h
    refine fhW.sub (lv' := [(0, .ref 0), (1, .int v1), (2, .long v2), (4, .int v4), (5, .int s0)]) [1, 2, 3, 4, 0] rfl ?_
    exact L_X12_qTakes_38 hΓ hd v1 v2 v4 s0 σ _ h hk
  · rw [if_pos hc] at h
    refine fhW.blk fhPM fhLL hΓ [(.iload 5, 0)] (pc' := 24) (lv' := [(5, .int s0), (0, .ref 0), (1, .int v1), (2, .long v2), (4, .int v4)]) (st' := [.int s0]) (σ' := σ) (by decide +kernel) rfl rfl rfl ?_
    refine fhW.z_eq hΓ (tgt := 38) (show fhbk _ _ (.ifCond .eq (14)) _ = true by decide +kernel) (fun hc => ?_) (fun hc => ?_)
    · rw [if_pos hc] at h
      refine fhW.sub (lv' := [(0, .ref 0), (1, .int v1), (2, .long v2), (4, .int v4), (5, .int s0)]) [1, 2, 3, 4, 0] rfl ?_
      exact L_X12_qTakes_38 hΓ hd v1 v2 v4 s0 σ _ h hk
    · rw [if_neg hc] at h
      refine fhW.blk fhPM fhLL hΓ [(.aload_n 0, 0), (.getfield 689, 0), (.ldc2_w 692, 0), (.lcmp, 0)] (pc' := 35) (lv' := [(5, .int s0), (0, .ref 0), (1, .int v1), (2, .long v2), (4, .int v4)]) (st' := [.int (lg_cmp (σ.2.1 0 106) (-1 : Int64))]) (σ' := σ) (by decide +kernel) rfl rfl rfl ?_
      refine fhW.z_eq hΓ (tgt := 48) (show fhbk _ _ (.ifCond .eq (13)) _ = true by decide +kernel) (fun hc => ?_) (fun hc => ?_)
      · rw [if_pos hc] at h
        refine fhW.sub (lv' := [(0, .ref 0), (1, .int v1), (2, .long v2), (4, .int v4), (5, .int s0)]) [1, 2, 3, 4, 0] rfl ?_
        exact L_X12_qTakes_48 hΓ hd v1 v2 v4 s0 σ _ h hk
      · rw [if_neg hc] at h
        refine fhW.sub (lv' := [(0, .ref 0), (1, .int v1), (2, .long v2), (4, .int v4), (5, .int s0)]) [1, 2, 3, 4, 0] rfl ?_
        exact L_X12_qTakes_38 hΓ hd v1 v2 v4 s0 σ _ h hk
set_option maxRecDepth 100000 in
set_option maxHeartbeats 4000000 in
theorem L_X12_qTakes_15 {Γ : fhX} (hΓ : fhOk fhYM 12 cX12_qTakes 6 none Γ) (hd : 0 ≤ fhD Γ) (v1 : Int32) (v2 : Int64) (v4 : Int32)  (σ : fhM) (o : fhM) (h : f_X12_qTakes_15 v1 v2 v4 σ = o) (hk : (fun o => fhRet Γ none o) o) : fhW fhYM Γ 15 [(0, .ref 0), (1, .int v1), (2, .long v2), (4, .int v4)] [] σ := by
  unfold f_X12_qTakes_15 at h
  refine fhW.blk fhPM fhLL hΓ [(.iconst 0, 0)] (pc' := 16) (lv' := [(0, .ref 0), (1, .int v1), (2, .long v2), (4, .int v4)]) (st' := [.int (0 : Int32)]) (σ' := σ) (by decide +kernel) rfl rfl rfl ?_
  refine fhW.sub (lv' := [(0, .ref 0), (1, .int v1), (2, .long v2), (4, .int v4)]) [0, 1, 2, 3] rfl ?_
  exact L_X12_qTakes_16 hΓ hd v1 v2 v4 (0 : Int32) σ _ h hk
set_option maxRecDepth 100000 in
set_option maxHeartbeats 4000000 in
theorem L_X12_qTakes_E {Γ : fhX} (hΓ : fhOk fhYM 12 cX12_qTakes 6 none Γ) (hd : 0 ≤ fhD Γ) (v1 : Int32) (v2 : Int64) (v4 : Int32)  (σ : fhM) (o : fhM) (h : f_X12_qTakes v1 v2 v4 σ = o) (hk : (fun o => fhRet Γ none o) o) : fhW fhYM Γ 0 [(0, .ref 0), (1, .int v1), (2, .long v2), (4, .int v4)] [] σ := by
  unfold f_X12_qTakes at h
  refine fhW.blk fhPM fhLL hΓ [(.iload_n 1, 0), (.iconst 3, 3)] (pc' := 2) (lv' := [(0, .ref 0), (1, .int v1), (2, .long v2), (4, .int v4)]) (st' := [.int (3 : Int32), .int v1]) (σ' := σ) (by decide +kernel) rfl rfl rfl ?_
  refine fhW.i_ge hΓ (tgt := 15) (show fhbk _ _ (.if_icmp .ge (13)) _ = true by decide +kernel) (fun hc => ?_) (fun hc => ?_)
  · rw [if_pos hc] at h
    refine fhW.sub (lv' := [(0, .ref 0), (1, .int v1), (2, .long v2), (4, .int v4)]) [0, 1, 2, 3] rfl ?_
    exact L_X12_qTakes_15 hΓ hd v1 v2 v4 σ _ h hk
  · rw [if_neg hc] at h
    refine fhW.blk fhPM fhLL hΓ [(.lload_n 2, 0), (.lconst 1, 0), (.lcmp, 0)] (pc' := 8) (lv' := [(0, .ref 0), (1, .int v1), (2, .long v2), (4, .int v4)]) (st' := [.int (lg_cmp v2 (1 : Int64))]) (σ' := σ) (by decide +kernel) rfl rfl rfl ?_
    refine fhW.z_ne hΓ (tgt := 15) (show fhbk _ _ (.ifCond .ne (7)) _ = true by decide +kernel) (fun hc => ?_) (fun hc => ?_)
    · rw [if_neg hc] at h
      refine fhW.sub (lv' := [(0, .ref 0), (1, .int v1), (2, .long v2), (4, .int v4)]) [0, 1, 2, 3] rfl ?_
      exact L_X12_qTakes_15 hΓ hd v1 v2 v4 σ _ h hk
    · rw [if_pos hc] at h
      refine fhW.blk fhPM fhLL hΓ [(.iconst 1, 1)] (pc' := 12) (lv' := [(0, .ref 0), (1, .int v1), (2, .long v2), (4, .int v4)]) (st' := [.int (1 : Int32)]) (σ' := σ) (by decide +kernel) rfl rfl rfl ?_
      refine fhW.goto hΓ (off := 4) (tgt := 16) (by decide +kernel) ?_
      refine fhW.sub (lv' := [(0, .ref 0), (1, .int v1), (2, .long v2), (4, .int v4)]) [0, 1, 2, 3] rfl ?_
      exact L_X12_qTakes_16 hΓ hd v1 v2 v4 (1 : Int32) σ _ h hk
set_option maxRecDepth 100000 in
theorem T_X12_qTakes {E : fhE} {d : Nat} (hd : 0 ≤ d) (v1 : Int32) (v2 : Int64) (v4 : Int32)  (σ : fhM) : fhC fhYM E d miX12_qTakes [.ref 0, .int v1, .long v2, .int v4] σ none (f_X12_qTakes v1 v2 v4 σ) := by
  refine fhC.of (y := yX12_qTakes) (cc := cX12_qTakes) (nL := 6) (ret := none) 12 rfl (by decide +kernel) (Nat.le_of_ble_eq_true rfl) ?_
  intro Γ hΓ hR hD hEn
  subst hD; subst hEn
  exact L_X12_qTakes_E hΓ hd v1 v2 v4  σ _ rfl hR
set_option maxRecDepth 100000 in
set_option maxHeartbeats 4000000 in
theorem L_X12_ask_204 {Γ : fhX} (hΓ : fhOk fhYM 12 cX12_ask 3 (some .long) Γ) (hd : 9 ≤ fhD Γ) (v1 : Int32) (v2 : Int32)  (σ : fhM) (o : (Int32 × fhM) ⊕ (Int64 × fhM)) (h : f_X12_ask_204 v1 v2 σ = some o) (hk : (fhK (fun x => fhW fhYM Γ 204 [(0, .ref 0), (1, .int v1), (2, .int x.1)] [] x.2) (fun o => fhRet Γ (some (.long o.1)) o.2)) o) : fhW fhYM Γ 204 [(0, .ref 0), (1, .int v1), (2, .int v2)] [] σ := by
  unfold f_X12_ask_204 at h
  refine fhW.blk fhPM fhLL hΓ [(.iload_n 2, 0), (.aload_n 0, 0)] (pc' := 206) (lv' := [(0, .ref 0), (1, .int v1), (2, .int v2)]) (st' := [.ref 0, .int v2]) (σ' := σ) (by decide +kernel) rfl rfl rfl ?_
  refine fhW.callv hΓ mvX12_guestMany ml_12_423 (t := 0) (ci := 12) (av := []) (rest := [.int v2]) (r := (some (.int (f_X12_guestMany σ)))) (σ' := σ) (T_X12_guestMany (E := fhEn Γ) (d := fhD Γ - 1) (by omega) σ) (by omega) (by decide +kernel) rfl rfl rfl (Nat.le_of_ble_eq_true rfl) rfl ?_
  show fhW fhYM Γ 209 [(0, .ref 0), (1, .int v1), (2, .int v2)] [.int (f_X12_guestMany σ), .int v2] σ
  refine fhW.i_ge hΓ (tgt := 234) (show fhbk _ _ (.if_icmp .ge (25)) _ = true by decide +kernel) (fun hc => ?_) (fun hc => ?_)
  · rw [if_pos hc] at h
    refine fhW.blk fhPM fhLL hΓ [(.aload_n 0, 0), (.getfield 689, 0)] (pc' := 238) (lv' := [(0, .ref 0), (1, .int v1), (2, .int v2)]) (st' := [.long (σ.2.1 0 106)]) (σ' := σ) (by decide +kernel) rfl rfl rfl ?_
    have e9 := Option.some.inj h
    subst e9
    exact fhW.lret hΓ (by decide +kernel) hk
  · rw [if_neg hc] at h
    refine fhW.blk fhPM fhLL hΓ [(.aload_n 0, 0), (.iload_n 2, 0), (.putfield 675, 0), (.aload_n 0, 0), (.iload_n 1, 0), (.aload_n 0, 0), (.iload_n 2, 0)] (pc' := 221) (lv' := [(0, .ref 0), (1, .int v1), (2, .int v2)]) (st' := [.int v2, .ref 0, .int v1, .ref 0]) (σ' := (fhI σ 0 51 v2)) (by decide +kernel) rfl rfl rfl ?_
    obtain ⟨q7, hb1, h⟩ := Option.bind_eq_some_iff.mp h
    refine fhW.callv hΓ mvX12_qTold ml_12_400 (t := 0) (ci := 12) (av := [.int v2]) (rest := [.int v1, .ref 0]) (r := (some (.long q7.1))) (σ' := q7.2) (T_X12_qTold (E := fhEn Γ) (d := fhD Γ - 1) (by omega) v2 (fhI σ 0 51 v2) hb1) (by omega) (by decide +kernel) rfl rfl rfl (Nat.le_of_ble_eq_true rfl) rfl ?_
    show fhW fhYM Γ 224 [(0, .ref 0), (1, .int v1), (2, .int v2)] [.long q7.1, .int v1, .ref 0] q7.2
    refine fhW.blk fhPM fhLL hΓ [(.iload_n 2, 0)] (pc' := 225) (lv' := [(0, .ref 0), (1, .int v1), (2, .int v2)]) (st' := [.int v2, .long q7.1, .int v1, .ref 0]) (σ' := q7.2) (by decide +kernel) rfl rfl rfl ?_
    refine fhW.callv hΓ mvX12_qTakes ml_12_702 (t := 0) (ci := 12) (av := [.int v1, .long q7.1, .int v2]) (rest := []) (r := none) (σ' := (f_X12_qTakes v1 q7.1 v2 q7.2)) (T_X12_qTakes (E := fhEn Γ) (d := fhD Γ - 1) (by omega) v1 q7.1 v2 q7.2) (by omega) (by decide +kernel) rfl rfl rfl (Nat.le_of_ble_eq_true rfl) rfl ?_
    show fhW fhYM Γ 228 [(0, .ref 0), (1, .int v1), (2, .int v2)] [] (f_X12_qTakes v1 q7.1 v2 q7.2)
    obtain ⟨q8, e1, h⟩ := fhlet_elim h
    rw [← e1]
    refine fhW.blk fhPM fhLL hΓ [(.iinc 2 1, 1)] (pc' := 231) (lv' := [(2, .int (v2 + (1 : Int32))), (0, .ref 0), (1, .int v1)]) (st' := []) (σ' := q8) (by decide +kernel) rfl rfl rfl ?_
    refine fhW.goto hΓ (off := (-27)) (tgt := 204) (by decide +kernel) ?_
    refine fhW.sub (lv' := [(0, .ref 0), (1, .int v1), (2, .int (v2 + (1 : Int32)))]) [1, 2, 0] rfl ?_
    have e9 := Option.some.inj h
    subst e9
    exact hk
set_option maxRecDepth 100000 in
set_option maxHeartbeats 4000000 in
theorem L_X12_ask_183 {Γ : fhX} (hΓ : fhOk fhYM 12 cX12_ask 3 (some .long) Γ) (hd : 9 ≤ fhD Γ) (v1 : Int32) (v2 : Int32)  (σ : fhM) (o : (Int32 × fhM) ⊕ (Int64 × fhM)) (h : f_X12_ask_183 v1 v2 σ = some o) (hk : (fhK (fun x => fhW fhYM Γ 183 [(0, .ref 0), (1, .int v1), (2, .int x.1)] [] x.2) (fun o => fhRet Γ (some (.long o.1)) o.2)) o) : fhW fhYM Γ 183 [(0, .ref 0), (1, .int v1), (2, .int v2)] [] σ := by
  unfold f_X12_ask_183 at h
  refine fhW.blk fhPM fhLL hΓ [(.iload_n 2, 0), (.aload_n 0, 0)] (pc' := 185) (lv' := [(0, .ref 0), (1, .int v1), (2, .int v2)]) (st' := [.ref 0, .int v2]) (σ' := σ) (by decide +kernel) rfl rfl rfl ?_
  refine fhW.callv hΓ mvX12_guestMany ml_12_423 (t := 0) (ci := 12) (av := []) (rest := [.int v2]) (r := (some (.int (f_X12_guestMany σ)))) (σ' := σ) (T_X12_guestMany (E := fhEn Γ) (d := fhD Γ - 1) (by omega) σ) (by omega) (by decide +kernel) rfl rfl rfl (Nat.le_of_ble_eq_true rfl) rfl ?_
  show fhW fhYM Γ 188 [(0, .ref 0), (1, .int v1), (2, .int v2)] [.int (f_X12_guestMany σ), .int v2] σ
  refine fhW.i_ge hΓ (tgt := 202) (show fhbk _ _ (.if_icmp .ge (14)) _ = true by decide +kernel) (fun hc => ?_) (fun hc => ?_)
  · rw [if_pos hc] at h
    refine fhW.blk fhPM fhLL hΓ [(.iconst 0, 0), (.istore_n 2, 0)] (pc' := 204) (lv' := [(2, .int (0 : Int32)), (0, .ref 0), (1, .int v1)]) (st' := []) (σ' := σ) (by decide +kernel) rfl rfl rfl ?_
    refine fhW.sub (lv' := [(0, .ref 0), (1, .int v1), (2, .int (0 : Int32))]) [1, 2, 0] rfl ?_
    obtain ⟨z1, hz, e2⟩ := Option.map_eq_some_iff.mp h
    clear h
    subst e2
    have h := hz
    have hk : (fun o => fhRet Γ (some (.long o.1)) o.2) z1 := hk
    exact fhlp_ok (W := (fun x => fhW fhYM Γ 204 [(0, .ref 0), (1, .int v1), (2, .int x.1)] [] x.2)) (B := (fun o => fhRet Γ (some (.long o.1)) o.2)) (fun x o h hk => L_X12_ask_204 hΓ hd v1 x.1 x.2 o h hk) ((0 : Int32), σ) _ h hk
  · rw [if_neg hc] at h
    refine fhW.blk fhPM fhLL hΓ [(.aload_n 0, 0), (.iload_n 2, 0)] (pc' := 193) (lv' := [(0, .ref 0), (1, .int v1), (2, .int v2)]) (st' := [.int v2, .ref 0]) (σ' := σ) (by decide +kernel) rfl rfl rfl ?_
    obtain ⟨q6, hb2, h⟩ := Option.bind_eq_some_iff.mp h
    refine fhW.callv hΓ mvX12_laysOwn ml_12_481 (t := 0) (ci := 12) (av := [.int v2]) (rest := []) (r := none) (σ' := q6) (T_X12_laysOwn (E := fhEn Γ) (d := fhD Γ - 1) (by omega) v2 σ hb2) (by omega) (by decide +kernel) rfl rfl rfl (Nat.le_of_ble_eq_true rfl) rfl ?_
    show fhW fhYM Γ 196 [(0, .ref 0), (1, .int v1), (2, .int v2)] [] q6
    refine fhW.blk fhPM fhLL hΓ [(.iinc 2 1, 1)] (pc' := 199) (lv' := [(2, .int (v2 + (1 : Int32))), (0, .ref 0), (1, .int v1)]) (st' := []) (σ' := q6) (by decide +kernel) rfl rfl rfl ?_
    refine fhW.goto hΓ (off := (-16)) (tgt := 183) (by decide +kernel) ?_
    refine fhW.sub (lv' := [(0, .ref 0), (1, .int v1), (2, .int (v2 + (1 : Int32)))]) [1, 2, 0] rfl ?_
    have e9 := Option.some.inj h
    subst e9
    exact hk
set_option maxRecDepth 100000 in
set_option maxHeartbeats 4000000 in
theorem L_X12_ask_173 {Γ : fhX} (hΓ : fhOk fhYM 12 cX12_ask 3 (some .long) Γ) (hd : 9 ≤ fhD Γ) (v1 : Int32) (s0 : Int64)  (σ : fhM) (o : Int64 × fhM) (h : f_X12_ask_173 v1 s0 σ = some o) (hk : (fun o => fhRet Γ (some (.long o.1)) o.2) o) : fhW fhYM Γ 173 [(0, .ref 0), (1, .int v1)] [.long s0, .ref 0] σ := by
  unfold f_X12_ask_173 at h
  refine fhW.blk fhPM fhLL hΓ [(.putfield 689, 0), (.aload_n 0, 0), (.iconst 1, 1), (.putfield 694, 0), (.iconst 0, 0), (.istore_n 2, 0)] (pc' := 183) (lv' := [(2, .int (0 : Int32)), (0, .ref 0), (1, .int v1)]) (st' := []) (σ' := (fhI (fhJ σ 0 106 s0) 0 107 (1 : Int32))) (by decide +kernel) rfl rfl rfl ?_
  refine fhW.sub (lv' := [(0, .ref 0), (1, .int v1), (2, .int (0 : Int32))]) [1, 2, 0] rfl ?_
  exact fhlp_ok (W := (fun x => fhW fhYM Γ 183 [(0, .ref 0), (1, .int v1), (2, .int x.1)] [] x.2)) (B := (fun o => fhRet Γ (some (.long o.1)) o.2)) (fun x o h hk => L_X12_ask_183 hΓ hd v1 x.1 x.2 o h hk) ((0 : Int32), (fhI (fhJ σ 0 106 s0) 0 107 (1 : Int32))) _ h hk
set_option maxRecDepth 100000 in
set_option maxHeartbeats 4000000 in
theorem L_X12_ask_133 {Γ : fhX} (hΓ : fhOk fhYM 12 cX12_ask 3 (some .long) Γ) (hd : 9 ≤ fhD Γ) (v1 : Int32)  (σ : fhM) (o : Int64 × fhM) (h : f_X12_ask_133 v1 σ = some o) (hk : (fun o => fhRet Γ (some (.long o.1)) o.2) o) : fhW fhYM Γ 133 [(0, .ref 0), (1, .int v1)] [] σ := by
  unfold f_X12_ask_133 at h
  refine fhW.blk fhPM fhLL hΓ [(.aload_n 0, 0), (.aload_n 0, 0), (.getfield 262, 0), (.putfield 413, 0), (.aload_n 0, 0), (.aload_n 0, 0), (.getfield 265, 0), (.putfield 13, 0), (.aload_n 0, 0), (.getfield 262, 0)] (pc' := 153) (lv' := [(0, .ref 0), (1, .int v1)]) (st' := [.int (σ.1 0 5)]) (σ' := (fhI (fhI σ 0 7 (σ.1 0 5)) 0 8 (σ.1 0 6))) (by decide +kernel) rfl rfl rfl ?_
  refine fhW.z_eq hΓ (tgt := 160) (show fhbk _ _ (.ifCond .eq (7)) _ = true by decide +kernel) (fun hc => ?_) (fun hc => ?_)
  · rw [if_pos hc] at h
    refine fhW.blk fhPM fhLL hΓ [(.aload_n 0, 0), (.iload_n 1, 0), (.iconst 2, 2)] (pc' := 163) (lv' := [(0, .ref 0), (1, .int v1)]) (st' := [.int (2 : Int32), .int v1, .ref 0]) (σ' := (fhI (fhI σ 0 7 (σ.1 0 5)) 0 8 (σ.1 0 6))) (by decide +kernel) rfl rfl rfl ?_
    refine fhW.i_ge hΓ (tgt := 172) (show fhbk _ _ (.if_icmp .ge (9)) _ = true by decide +kernel) (fun hc => ?_) (fun hc => ?_)
    · simp only [if_pos hc] at h
      refine fhW.blk fhPM fhLL hΓ [(.lconst 0, 0)] (pc' := 173) (lv' := [(0, .ref 0), (1, .int v1)]) (st' := [.long (0 : Int64), .ref 0]) (σ' := (fhI (fhI σ 0 7 (σ.1 0 5)) 0 8 (σ.1 0 6))) (by decide +kernel) rfl rfl rfl ?_
      refine fhW.sub (lv' := [(0, .ref 0), (1, .int v1)]) [0, 1] rfl ?_
      exact L_X12_ask_173 hΓ hd v1 (0 : Int64) (fhI (fhI σ 0 7 (σ.1 0 5)) 0 8 (σ.1 0 6)) _ h hk
    · simp only [if_neg hc] at h
      refine fhW.blk fhPM fhLL hΓ [(.ldc2_w 692, 0)] (pc' := 169) (lv' := [(0, .ref 0), (1, .int v1)]) (st' := [.long (-1 : Int64), .ref 0]) (σ' := (fhI (fhI σ 0 7 (σ.1 0 5)) 0 8 (σ.1 0 6))) (by decide +kernel) rfl rfl rfl ?_
      refine fhW.goto hΓ (off := 4) (tgt := 173) (by decide +kernel) ?_
      refine fhW.sub (lv' := [(0, .ref 0), (1, .int v1)]) [0, 1] rfl ?_
      exact L_X12_ask_173 hΓ hd v1 (-1 : Int64) (fhI (fhI σ 0 7 (σ.1 0 5)) 0 8 (σ.1 0 6)) _ h hk
  · rw [if_neg hc] at h
    refine fhW.blk fhPM fhLL hΓ [(.ldc2_w 697, 0)] (pc' := 159) (lv' := [(0, .ref 0), (1, .int v1)]) (st' := [.long (-1000000000000000 : Int64)]) (σ' := (fhI (fhI σ 0 7 (σ.1 0 5)) 0 8 (σ.1 0 6))) (by decide +kernel) rfl rfl rfl ?_
    have e9 := Option.some.inj h
    subst e9
    exact fhW.lret hΓ (by decide +kernel) hk
set_option maxRecDepth 100000 in
set_option maxHeartbeats 4000000 in
theorem L_X12_ask_109 {Γ : fhX} (hΓ : fhOk fhYM 12 cX12_ask 3 (some .long) Γ) (hd : 9 ≤ fhD Γ) (v1 : Int32)  (σ : fhM) (o : Int64 × fhM) (h : f_X12_ask_109 v1 σ = some o) (hk : (fun o => fhRet Γ (some (.long o.1)) o.2) o) : fhW fhYM Γ 109 [(0, .ref 0), (1, .int v1)] [] σ := by
  unfold f_X12_ask_109 at h
  refine fhW.blk fhPM fhLL hΓ [(.aload_n 0, 0), (.getfield 262, 0)] (pc' := 113) (lv' := [(0, .ref 0), (1, .int v1)]) (st' := [.int (σ.1 0 5)]) (σ' := σ) (by decide +kernel) rfl rfl rfl ?_
  refine fhW.z_ne hΓ (tgt := 133) (show fhbk _ _ (.ifCond .ne (20)) _ = true by decide +kernel) (fun hc => ?_) (fun hc => ?_)
  · rw [if_neg hc] at h
    refine fhW.sub (lv' := [(0, .ref 0), (1, .int v1)]) [0, 1] rfl ?_
    exact L_X12_ask_133 hΓ hd v1 σ _ h hk
  · rw [if_pos hc] at h
    refine fhW.blk fhPM fhLL hΓ [(.aload_n 0, 0)] (pc' := 117) (lv' := [(0, .ref 0), (1, .int v1)]) (st' := [.ref 0]) (σ' := σ) (by decide +kernel) rfl rfl rfl ?_
    obtain ⟨q4, hb3, h⟩ := Option.bind_eq_some_iff.mp h
    refine fhW.callv hΓ mvX12_look ml_12_274 (t := 0) (ci := 12) (av := []) (rest := []) (r := (some (.int q4.1))) (σ' := q4.2) (T_X12_look (E := fhEn Γ) (d := fhD Γ - 1) (by omega) σ hb3) (by omega) (by decide +kernel) rfl rfl rfl (Nat.le_of_ble_eq_true rfl) rfl ?_
    show fhW fhYM Γ 120 [(0, .ref 0), (1, .int v1)] [.int q4.1] q4.2
    refine fhW.blk fhPM fhLL hΓ [(.iconst (-1), -1)] (pc' := 121) (lv' := [(0, .ref 0), (1, .int v1)]) (st' := [.int (-1 : Int32), .int q4.1]) (σ' := q4.2) (by decide +kernel) rfl rfl rfl ?_
    refine fhW.i_eq hΓ (tgt := 133) (show fhbk _ _ (.if_icmp .eq (12)) _ = true by decide +kernel) (fun hc => ?_) (fun hc => ?_)
    · rw [if_pos hc] at h
      refine fhW.sub (lv' := [(0, .ref 0), (1, .int v1)]) [0, 1] rfl ?_
      exact L_X12_ask_133 hΓ hd v1 q4.2 _ h hk
    · rw [if_neg hc] at h
      refine fhW.blk fhPM fhLL hΓ [(.aload_n 0, 0), (.iconst 1, 1), (.aload_n 0, 0), (.getfield 268, 0)] (pc' := 130) (lv' := [(0, .ref 0), (1, .int v1)]) (st' := [.int (q4.2.1 0 2), .int (1 : Int32), .ref 0]) (σ' := q4.2) (by decide +kernel) rfl rfl rfl ?_
      refine fhW.callv hΓ mvX12_fail ml_12_292 (t := 0) (ci := 12) (av := [.int (1 : Int32), .int (q4.2.1 0 2)]) (rest := []) (r := none) (σ' := (f_X12_fail (1 : Int32) (q4.2.1 0 2) q4.2)) (T_X12_fail (E := fhEn Γ) (d := fhD Γ - 1) (by omega) (1 : Int32) (q4.2.1 0 2) q4.2) (by omega) (by decide +kernel) rfl rfl rfl (Nat.le_of_ble_eq_true rfl) rfl ?_
      show fhW fhYM Γ 133 [(0, .ref 0), (1, .int v1)] [] (f_X12_fail (1 : Int32) (q4.2.1 0 2) q4.2)
      obtain ⟨q5, e3, h⟩ := fhlet_elim h
      rw [← e3]
      refine fhW.sub (lv' := [(0, .ref 0), (1, .int v1)]) [0, 1] rfl ?_
      exact L_X12_ask_133 hΓ hd v1 q5 _ h hk
set_option maxRecDepth 100000 in
set_option maxHeartbeats 4000000 in
theorem L_X12_ask_98 {Γ : fhX} (hΓ : fhOk fhYM 12 cX12_ask 3 (some .long) Γ) (hd : 9 ≤ fhD Γ) (v1 : Int32)  (σ : fhM) (o : Int64 × fhM) (h : f_X12_ask_98 v1 σ = some o) (hk : (fun o => fhRet Γ (some (.long o.1)) o.2) o) : fhW fhYM Γ 98 [(0, .ref 0), (1, .int v1)] [] σ := by
  unfold f_X12_ask_98 at h
  refine fhW.blk fhPM fhLL hΓ [(.aload_n 0, 0), (.getfield 262, 0)] (pc' := 102) (lv' := [(0, .ref 0), (1, .int v1)]) (st' := [.int (σ.1 0 5)]) (σ' := σ) (by decide +kernel) rfl rfl rfl ?_
  refine fhW.z_ne hΓ (tgt := 109) (show fhbk _ _ (.ifCond .ne (7)) _ = true by decide +kernel) (fun hc => ?_) (fun hc => ?_)
  · rw [if_neg hc] at h
    refine fhW.sub (lv' := [(0, .ref 0), (1, .int v1)]) [0, 1] rfl ?_
    exact L_X12_ask_109 hΓ hd v1 σ _ h hk
  · rw [if_pos hc] at h
    refine fhW.blk fhPM fhLL hΓ [(.aload_n 0, 0)] (pc' := 106) (lv' := [(0, .ref 0), (1, .int v1)]) (st' := [.ref 0]) (σ' := σ) (by decide +kernel) rfl rfl rfl ?_
    obtain ⟨q3, hb4, h⟩ := Option.bind_eq_some_iff.mp h
    refine fhW.callv hΓ mvX12_qSums ml_12_632 (t := 0) (ci := 12) (av := []) (rest := []) (r := none) (σ' := q3) (T_X12_qSums (E := fhEn Γ) (d := fhD Γ - 1) (by omega) σ hb4) (by omega) (by decide +kernel) rfl rfl rfl (Nat.le_of_ble_eq_true rfl) rfl ?_
    show fhW fhYM Γ 109 [(0, .ref 0), (1, .int v1)] [] q3
    refine fhW.sub (lv' := [(0, .ref 0), (1, .int v1)]) [0, 1] rfl ?_
    exact L_X12_ask_109 hΓ hd v1 q3 _ h hk
set_option maxRecDepth 100000 in
set_option maxHeartbeats 4000000 in
theorem L_X12_ask_E {Γ : fhX} (hΓ : fhOk fhYM 12 cX12_ask 3 (some .long) Γ) (hd : 9 ≤ fhD Γ)   (σ : fhM) (o : Int64 × fhM) (h : f_X12_ask σ = some o) (hk : (fun o => fhRet Γ (some (.long o.1)) o.2) o) : fhW fhYM Γ 0 [(0, .ref 0)] [] σ := by
  unfold f_X12_ask at h
  refine fhW.blk fhPM fhLL hΓ [(.aload_n 0, 0), (.getfield 441, 0)] (pc' := 4) (lv' := [(0, .ref 0)]) (st' := [.int (σ.1 0 47)]) (σ' := σ) (by decide +kernel) rfl rfl rfl ?_
  refine fhW.z_ne hΓ (tgt := 16) (show fhbk _ _ (.ifCond .ne (12)) _ = true by decide +kernel) (fun hc => ?_) (fun hc => ?_)
  · rw [if_neg hc] at h
    refine fhW.blk fhPM fhLL hΓ [(.aload_n 0, 0), (.aload_n 0, 0), (.getfield 259, 0), (.putfield 271, 0), (.aload_n 0, 0), (.iconst 0, 0), (.putfield 259, 0), (.aload_n 0, 0), (.iconst 0, 0), (.putfield 268, 0), (.aload_n 0, 0), (.iconst (-1), -1), (.putfield 282, 0), (.aload_n 0, 0), (.iconst 0, 0), (.putfield 262, 0), (.aload_n 0, 0), (.iconst (-1), -1), (.putfield 265, 0), (.aload_n 0, 0), (.iconst 1, 1), (.putfield 320, 0), (.aload_n 0, 0), (.iconst 0, 0), (.putfield 350, 0), (.aload_n 0, 0), (.iconst 0, 0), (.putfield 353, 0), (.aload_n 0, 0), (.iconst 0, 0), (.putfield 356, 0), (.aload_n 0, 0), (.iconst 0, 0), (.putfield 359, 0), (.aload_n 0, 0)] (pc' := 75) (lv' := [(0, .ref 0)]) (st' := [.ref 0]) (σ' := (fhI (fhI (fhI (fhI (fhI (fhI (fhI (fhI (fhI (fhI (fhI σ 0 3 (σ.1 0 1)) 0 1 (0 : Int32)) 0 2 (0 : Int32)) 0 4 (-1 : Int32)) 0 5 (0 : Int32)) 0 6 (-1 : Int32)) 0 48 (1 : Int32)) 0 99 (0 : Int32)) 0 101 (0 : Int32)) 0 102 (0 : Int32)) 0 103 (0 : Int32))) (by decide +kernel) rfl rfl rfl ?_
    obtain ⟨q1, hb5, h⟩ := Option.bind_eq_some_iff.mp h
    refine fhW.callv hΓ mvX12_qKind ml_12_699 (t := 0) (ci := 12) (av := []) (rest := []) (r := (some (.int q1.1))) (σ' := q1.2) (T_X12_qKind (E := fhEn Γ) (d := fhD Γ - 1) (by omega) (fhI (fhI (fhI (fhI (fhI (fhI (fhI (fhI (fhI (fhI (fhI σ 0 3 (σ.1 0 1)) 0 1 (0 : Int32)) 0 2 (0 : Int32)) 0 4 (-1 : Int32)) 0 5 (0 : Int32)) 0 6 (-1 : Int32)) 0 48 (1 : Int32)) 0 99 (0 : Int32)) 0 101 (0 : Int32)) 0 102 (0 : Int32)) 0 103 (0 : Int32)) hb5) (by omega) (by decide +kernel) rfl rfl rfl (Nat.le_of_ble_eq_true rfl) rfl ?_
    show fhW fhYM Γ 78 [(0, .ref 0)] [.int q1.1] q1.2
    refine fhW.blk fhPM fhLL hΓ [(.istore_n 1, 0), (.aload_n 0, 0), (.getfield 262, 0)] (pc' := 83) (lv' := [(1, .int q1.1), (0, .ref 0)]) (st' := [.int (q1.2.1 0 5)]) (σ' := q1.2) (by decide +kernel) rfl rfl rfl ?_
    refine fhW.z_ne hΓ (tgt := 98) (show fhbk _ _ (.ifCond .ne (15)) _ = true by decide +kernel) (fun hc => ?_) (fun hc => ?_)
    · rw [if_neg hc] at h
      refine fhW.sub (lv' := [(0, .ref 0), (1, .int q1.1)]) [1, 0] rfl ?_
      exact L_X12_ask_98 hΓ hd q1.1 q1.2 _ h hk
    · rw [if_pos hc] at h
      refine fhW.blk fhPM fhLL hΓ [(.iload_n 1, 0), (.iconst 3, 3)] (pc' := 88) (lv' := [(1, .int q1.1), (0, .ref 0)]) (st' := [.int (3 : Int32), .int q1.1]) (σ' := q1.2) (by decide +kernel) rfl rfl rfl ?_
      refine fhW.i_ge hΓ (tgt := 98) (show fhbk _ _ (.if_icmp .ge (10)) _ = true by decide +kernel) (fun hc => ?_) (fun hc => ?_)
      · rw [if_pos hc] at h
        refine fhW.sub (lv' := [(0, .ref 0), (1, .int q1.1)]) [1, 0] rfl ?_
        exact L_X12_ask_98 hΓ hd q1.1 q1.2 _ h hk
      · rw [if_neg hc] at h
        refine fhW.blk fhPM fhLL hΓ [(.aload_n 0, 0)] (pc' := 92) (lv' := [(1, .int q1.1), (0, .ref 0)]) (st' := [.ref 0]) (σ' := q1.2) (by decide +kernel) rfl rfl rfl ?_
        obtain ⟨q2, hb6, h⟩ := Option.bind_eq_some_iff.mp h
        refine fhW.callv hΓ mvX12_qTest ml_12_362 (t := 0) (ci := 12) (av := []) (rest := []) (r := none) (σ' := q2) (T_X12_qTest (E := fhEn Γ) (d := fhD Γ - 1) (by omega) q1.2 hb6) (by omega) (by decide +kernel) rfl rfl rfl (Nat.le_of_ble_eq_true rfl) rfl ?_
        show fhW fhYM Γ 95 [(1, .int q1.1), (0, .ref 0)] [] q2
        refine fhW.goto hΓ (off := 14) (tgt := 109) (by decide +kernel) ?_
        refine fhW.sub (lv' := [(0, .ref 0), (1, .int q1.1)]) [1, 0] rfl ?_
        exact L_X12_ask_109 hΓ hd q1.1 q2 _ h hk
  · rw [if_pos hc] at h
    refine fhW.blk fhPM fhLL hΓ [(.aload_n 0, 0), (.iconst 0, 0), (.putfield 259, 0), (.ldc2_w 697, 0)] (pc' := 15) (lv' := [(0, .ref 0)]) (st' := [.long (-1000000000000000 : Int64)]) (σ' := (fhI σ 0 1 (0 : Int32))) (by decide +kernel) rfl rfl rfl ?_
    have e9 := Option.some.inj h
    subst e9
    exact fhW.lret hΓ (by decide +kernel) hk
set_option maxRecDepth 100000 in
theorem T_X12_ask {E : fhE} {d : Nat} (hd : 9 ≤ d)   (σ : fhM) {o : Int64 × fhM} (h : f_X12_ask σ = some o) : fhC fhYM E d miX12_ask [.ref 0] σ (some (.long o.1)) o.2 := by
  refine fhC.of (y := yX12_ask) (cc := cX12_ask) (nL := 3) (ret := (some .long)) 12 rfl (by decide +kernel) (Nat.le_of_ble_eq_true rfl) ?_
  intro Γ hΓ hR hD hEn
  subst hD; subst hEn
  exact L_X12_ask_E hΓ hd   σ _ h hR
set_option maxRecDepth 100000 in
set_option maxHeartbeats 4000000 in
theorem L_X12_checked_6 {Γ : fhX} (hΓ : fhOk fhYM 12 cX12_checked 4 (some .int) Γ) (hd : 0 ≤ fhD Γ) (v0 : Nat) (v1 : Int32) (v2 : Int32) (v3 : Int32) (hv0 : fhiA v0 = true) (σ : fhM) (o : (Int32 × Int32) ⊕ (Int32)) (h : f_X12_checked_6 v0 v1 v2 v3 σ = some o) (hk : (fhK (fun x => fhW fhYM Γ 6 [(0, .ref v0), (1, .int v1), (2, .int x.1), (3, .int x.2)] [] σ) (fun o => fhRet Γ (some (.int o)) σ)) o) : fhW fhYM Γ 6 [(0, .ref v0), (1, .int v1), (2, .int v2), (3, .int v3)] [] σ := by
  unfold f_X12_checked_6 at h
  refine fhW.blk fhPM fhLL hΓ [(.iload_n 3, 0), (.iload_n 1, 0)] (pc' := 8) (lv' := [(0, .ref v0), (1, .int v1), (2, .int v2), (3, .int v3)]) (st' := [.int v1, .int v3]) (σ' := σ) (by decide +kernel) rfl rfl rfl ?_
  refine fhW.i_ge hΓ (tgt := 29) (show fhbk _ _ (.if_icmp .ge (21)) _ = true by decide +kernel) (fun hc => ?_) (fun hc => ?_)
  · rw [if_pos hc] at h
    refine fhW.blk fhPM fhLL hΓ [(.iload_n 2, 0)] (pc' := 30) (lv' := [(0, .ref v0), (1, .int v1), (2, .int v2), (3, .int v3)]) (st' := [.int v2]) (σ' := σ) (by decide +kernel) rfl rfl rfl ?_
    have e9 := Option.some.inj h
    subst e9
    exact fhW.iret hΓ (by decide +kernel) hk
  · rw [if_neg hc] at h
    refine fhW.blk fhPM fhLL hΓ [(.iconst 3, 3), (.iload_n 2, 0), (.imul, 0), (.aload_n 0, 0), (.iload_n 3, 0)] (pc' := 16) (lv' := [(0, .ref v0), (1, .int v1), (2, .int v2), (3, .int v3)]) (st' := [.int v3, .ref v0, .int ((3 : Int32) * v2)]) (σ' := σ) (by decide +kernel) rfl rfl rfl ?_
    obtain ⟨hg1, h⟩ := fhif h
    refine fhW.blk fhPM fhLL hΓ [(.iaload, 0)] (pc' := 17) (lv' := [(0, .ref v0), (1, .int v1), (2, .int v2), (3, .int v3)]) (st' := [.int (σ.1 v0 (fhix v3)), .int ((3 : Int32) * v2)]) (σ' := σ) (by decide +kernel) rfl rfl (fhsA hv0 hg1) ?_
    refine fhW.blk fhPM fhLL hΓ [(.iadd, 0), (.sipush 251, 251), (.irem, 0), (.istore_n 2, 0)] (pc' := 23) (lv' := [(2, .int (fhrem (((3 : Int32) * v2) + (σ.1 v0 (fhix v3))) (251 : Int32))), (0, .ref v0), (1, .int v1), (3, .int v3)]) (st' := []) (σ' := σ) (by decide +kernel) rfl rfl rfl ?_
    obtain ⟨w2_1, e1, h⟩ := fhlet_elim h
    rw [← e1]
    refine fhW.blk fhPM fhLL hΓ [(.iinc 3 1, 1)] (pc' := 26) (lv' := [(3, .int (v3 + (1 : Int32))), (2, .int w2_1), (0, .ref v0), (1, .int v1)]) (st' := []) (σ' := σ) (by decide +kernel) rfl rfl rfl ?_
    refine fhW.goto hΓ (off := (-20)) (tgt := 6) (by decide +kernel) ?_
    refine fhW.sub (lv' := [(0, .ref v0), (1, .int v1), (2, .int w2_1), (3, .int (v3 + (1 : Int32)))]) [2, 3, 1, 0] rfl ?_
    have e9 := Option.some.inj h
    subst e9
    exact hk
set_option maxRecDepth 100000 in
set_option maxHeartbeats 4000000 in
theorem L_X12_checked_E {Γ : fhX} (hΓ : fhOk fhYM 12 cX12_checked 4 (some .int) Γ) (hd : 0 ≤ fhD Γ) (v0 : Nat) (v1 : Int32) (hv0 : fhiA v0 = true) (σ : fhM) (o : Int32) (h : f_X12_checked v0 v1 σ = some o) (hk : (fun o => fhRet Γ (some (.int o)) σ) o) : fhW fhYM Γ 0 [(0, .ref v0), (1, .int v1)] [] σ := by
  unfold f_X12_checked at h
  refine fhW.blk fhPM fhLL hΓ [(.sipush 197, 197), (.istore_n 2, 0), (.iconst 0, 0), (.istore_n 3, 0)] (pc' := 6) (lv' := [(3, .int (0 : Int32)), (2, .int (197 : Int32)), (0, .ref v0), (1, .int v1)]) (st' := []) (σ' := σ) (by decide +kernel) rfl rfl rfl ?_
  refine fhW.sub (lv' := [(0, .ref v0), (1, .int v1), (2, .int (197 : Int32)), (3, .int (0 : Int32))]) [2, 3, 1, 0] rfl ?_
  exact fhlp_ok (W := (fun x => fhW fhYM Γ 6 [(0, .ref v0), (1, .int v1), (2, .int x.1), (3, .int x.2)] [] σ)) (B := (fun o => fhRet Γ (some (.int o)) σ)) (fun x o h hk => L_X12_checked_6 hΓ hd v0 v1 x.1 x.2 hv0 σ o h hk) ((197 : Int32), (0 : Int32)) _ h hk
set_option maxRecDepth 100000 in
theorem T_X12_checked {E : fhE} {d : Nat} (hd : 0 ≤ d) (v0 : Nat) (v1 : Int32) (hv0 : fhiA v0 = true) (σ : fhM) {o : Int32} (h : f_X12_checked v0 v1 σ = some o) : fhC fhYM E d miX12_checked [.ref v0, .int v1] σ (some (.int o)) σ := by
  refine fhC.of (y := yX12_checked) (cc := cX12_checked) (nL := 4) (ret := (some .int)) 12 rfl (by decide +kernel) (Nat.le_of_ble_eq_true rfl) ?_
  intro Γ hΓ hR hD hEn
  subst hD; subst hEn
  exact L_X12_checked_E hΓ hd v0 v1 hv0 σ _ h hR
set_option maxRecDepth 100000 in
set_option maxHeartbeats 4000000 in
theorem L_X12_writes_E {Γ : fhX} (hΓ : fhOk fhYM 12 cX12_writes 2 none Γ) (hd : 0 ≤ fhD Γ) (v1 : Int32)  (σ : fhM) (o : fhM) (h : f_X12_writes v1 σ = some o) (hk : (fun o => fhRet Γ none o) o) : fhW fhYM Γ 0 [(0, .ref 0), (1, .int v1)] [] σ := by
  unfold f_X12_writes at h
  obtain ⟨hg1, h⟩ := fhif h
  refine fhW.blk fhPM fhLL hΓ [(.aload_n 0, 0), (.getfield 256, 0), (.aload_n 0, 0), (.getfield 706, 0), (.iload_n 1, 0), (.iastore, 0), (.aload_n 0, 0), (.dup, 0), (.getfield 706, 0), (.iconst 1, 1), (.iadd, 0), (.putfield 706, 0)] (pc' := 20) (lv' := [(0, .ref 0), (1, .int v1)]) (st' := []) (σ' := (fhI (fhI σ 79 (fhix (σ.1 0 109)) v1) 0 109 ((σ.1 0 109) + (1 : Int32)))) (by decide +kernel) rfl rfl hg1 ?_
  have e9 := Option.some.inj h
  subst e9
  exact fhW.vret hΓ (by decide +kernel) hk
set_option maxRecDepth 100000 in
theorem T_X12_writes {E : fhE} {d : Nat} (hd : 0 ≤ d) (v1 : Int32)  (σ : fhM) {o : fhM} (h : f_X12_writes v1 σ = some o) : fhC fhYM E d miX12_writes [.ref 0, .int v1] σ none o := by
  refine fhC.of (y := yX12_writes) (cc := cX12_writes) (nL := 2) (ret := none) 12 rfl (by decide +kernel) (Nat.le_of_ble_eq_true rfl) ?_
  intro Γ hΓ hR hD hEn
  subst hD; subst hEn
  exact L_X12_writes_E hΓ hd v1  σ _ h hR
set_option maxRecDepth 100000 in
set_option maxHeartbeats 4000000 in
theorem L_X12_writesTwo_E {Γ : fhX} (hΓ : fhOk fhYM 12 cX12_writesTwo 2 none Γ) (hd : 1 ≤ fhD Γ) (v1 : Int32)  (σ : fhM) (o : fhM) (h : f_X12_writesTwo v1 σ = some o) (hk : (fun o => fhRet Γ none o) o) : fhW fhYM Γ 0 [(0, .ref 0), (1, .int v1)] [] σ := by
  unfold f_X12_writesTwo at h
  refine fhW.blk fhPM fhLL hΓ [(.aload_n 0, 0), (.iload_n 1, 0), (.sipush 256, 256), (.idiv, 0)] (pc' := 6) (lv' := [(0, .ref 0), (1, .int v1)]) (st' := [.int (v1 / (256 : Int32)), .ref 0]) (σ' := σ) (by decide +kernel) rfl rfl rfl ?_
  obtain ⟨q1, hb1, h⟩ := Option.bind_eq_some_iff.mp h
  refine fhW.callv hΓ mvX12_writes ml_12_709 (t := 0) (ci := 12) (av := [.int (v1 / (256 : Int32))]) (rest := []) (r := none) (σ' := q1) (T_X12_writes (E := fhEn Γ) (d := fhD Γ - 1) (by omega) (v1 / (256 : Int32)) σ hb1) (by omega) (by decide +kernel) rfl rfl rfl (Nat.le_of_ble_eq_true rfl) rfl ?_
  show fhW fhYM Γ 9 [(0, .ref 0), (1, .int v1)] [] q1
  refine fhW.blk fhPM fhLL hΓ [(.aload_n 0, 0), (.iload_n 1, 0), (.sipush 256, 256), (.irem, 0)] (pc' := 15) (lv' := [(0, .ref 0), (1, .int v1)]) (st' := [.int (fhrem v1 (256 : Int32)), .ref 0]) (σ' := q1) (by decide +kernel) rfl rfl rfl ?_
  obtain ⟨q2, hb2, h⟩ := Option.bind_eq_some_iff.mp h
  refine fhW.callv hΓ mvX12_writes ml_12_709 (t := 0) (ci := 12) (av := [.int (fhrem v1 (256 : Int32))]) (rest := []) (r := none) (σ' := q2) (T_X12_writes (E := fhEn Γ) (d := fhD Γ - 1) (by omega) (fhrem v1 (256 : Int32)) q1 hb2) (by omega) (by decide +kernel) rfl rfl rfl (Nat.le_of_ble_eq_true rfl) rfl ?_
  show fhW fhYM Γ 18 [(0, .ref 0), (1, .int v1)] [] q2
  have e9 := Option.some.inj h
  subst e9
  exact fhW.vret hΓ (by decide +kernel) hk
set_option maxRecDepth 100000 in
theorem T_X12_writesTwo {E : fhE} {d : Nat} (hd : 1 ≤ d) (v1 : Int32)  (σ : fhM) {o : fhM} (h : f_X12_writesTwo v1 σ = some o) : fhC fhYM E d miX12_writesTwo [.ref 0, .int v1] σ none o := by
  refine fhC.of (y := yX12_writesTwo) (cc := cX12_writesTwo) (nL := 2) (ret := none) 12 rfl (by decide +kernel) (Nat.le_of_ble_eq_true rfl) ?_
  intro Γ hΓ hR hD hEn
  subst hD; subst hEn
  exact L_X12_writesTwo_E hΓ hd v1  σ _ h hR
set_option maxRecDepth 100000 in
set_option maxHeartbeats 4000000 in
theorem L_X12_twoAt_E {Γ : fhX} (hΓ : fhOk fhYM 12 cX12_twoAt 2 (some .int) Γ) (hd : 0 ≤ fhD Γ) (v1 : Int32)  (σ : fhM) (o : Int32) (h : f_X12_twoAt v1 σ = some o) (hk : (fun o => fhRet Γ (some (.int o)) σ) o) : fhW fhYM Γ 0 [(0, .ref 0), (1, .int v1)] [] σ := by
  unfold f_X12_twoAt at h
  obtain ⟨hg1, h⟩ := fhif h
  refine fhW.blk fhPM fhLL hΓ [(.sipush 256, 256), (.aload_n 0, 0), (.getfield 7, 0), (.iload_n 1, 0), (.iaload, 0), (.imul, 0), (.aload_n 0, 0), (.getfield 7, 0), (.iload_n 1, 0), (.iconst 1, 1), (.iadd, 0), (.iaload, 0), (.iadd, 0)] (pc' := 19) (lv' := [(0, .ref 0), (1, .int v1)]) (st' := [.int (((256 : Int32) * (σ.1 1 (fhix v1))) + (σ.1 1 (fhix (v1 + (1 : Int32)))))]) (σ' := σ) (by decide +kernel) rfl rfl hg1 ?_
  have e9 := Option.some.inj h
  subst e9
  exact fhW.iret hΓ (by decide +kernel) hk
set_option maxRecDepth 100000 in
theorem T_X12_twoAt {E : fhE} {d : Nat} (hd : 0 ≤ d) (v1 : Int32)  (σ : fhM) {o : Int32} (h : f_X12_twoAt v1 σ = some o) : fhC fhYM E d miX12_twoAt [.ref 0, .int v1] σ (some (.int o)) σ := by
  refine fhC.of (y := yX12_twoAt) (cc := cX12_twoAt) (nL := 2) (ret := (some .int)) 12 rfl (by decide +kernel) (Nat.le_of_ble_eq_true rfl) ?_
  intro Γ hΓ hR hD hEn
  subst hD; subst hEn
  exact L_X12_twoAt_E hΓ hd v1  σ _ h hR
set_option maxRecDepth 100000 in
set_option maxHeartbeats 4000000 in
theorem L_X12_octet_E {Γ : fhX} (hΓ : fhOk fhYM 12 cX12_octet 2 (some .int) Γ) (hd : 0 ≤ fhD Γ) (v1 : Int32)  (σ : fhM) (o : Int32) (h : f_X12_octet v1 σ = some o) (hk : (fun o => fhRet Γ (some (.int o)) σ) o) : fhW fhYM Γ 0 [(0, .ref 0), (1, .int v1)] [] σ := by
  unfold f_X12_octet at h
  refine fhW.blk fhPM fhLL hΓ [(.iload_n 1, 0)] (pc' := 1) (lv' := [(0, .ref 0), (1, .int v1)]) (st' := [.int v1]) (σ' := σ) (by decide +kernel) rfl rfl rfl ?_
  refine fhW.z_lt hΓ (tgt := 21) (show fhbk _ _ (.ifCond .lt (20)) _ = true by decide +kernel) (fun hc => ?_) (fun hc => ?_)
  · rw [if_pos hc] at h
    refine fhW.blk fhPM fhLL hΓ [(.iconst (-1), -1)] (pc' := 22) (lv' := [(0, .ref 0), (1, .int v1)]) (st' := [.int (-1 : Int32)]) (σ' := σ) (by decide +kernel) rfl rfl rfl ?_
    have e9 := Option.some.inj h
    subst e9
    exact fhW.iret hΓ (by decide +kernel) hk
  · rw [if_neg hc] at h
    refine fhW.blk fhPM fhLL hΓ [(.iload_n 1, 0), (.aload_n 0, 0), (.getfield 706, 0)] (pc' := 9) (lv' := [(0, .ref 0), (1, .int v1)]) (st' := [.int (σ.1 0 109), .int v1]) (σ' := σ) (by decide +kernel) rfl rfl rfl ?_
    refine fhW.i_ge hΓ (tgt := 21) (show fhbk _ _ (.if_icmp .ge (12)) _ = true by decide +kernel) (fun hc => ?_) (fun hc => ?_)
    · rw [if_pos hc] at h
      refine fhW.blk fhPM fhLL hΓ [(.iconst (-1), -1)] (pc' := 22) (lv' := [(0, .ref 0), (1, .int v1)]) (st' := [.int (-1 : Int32)]) (σ' := σ) (by decide +kernel) rfl rfl rfl ?_
      have e9 := Option.some.inj h
      subst e9
      exact fhW.iret hΓ (by decide +kernel) hk
    · rw [if_neg hc] at h
      obtain ⟨hg1, h⟩ := fhif h
      refine fhW.blk fhPM fhLL hΓ [(.aload_n 0, 0), (.getfield 256, 0), (.iload_n 1, 0), (.iaload, 0)] (pc' := 18) (lv' := [(0, .ref 0), (1, .int v1)]) (st' := [.int (σ.1 79 (fhix v1))]) (σ' := σ) (by decide +kernel) rfl rfl hg1 ?_
      refine fhW.goto hΓ (off := 4) (tgt := 22) (by decide +kernel) ?_
      have e9 := Option.some.inj h
      subst e9
      exact fhW.iret hΓ (by decide +kernel) hk
set_option maxRecDepth 100000 in
theorem T_X12_octet {E : fhE} {d : Nat} (hd : 0 ≤ d) (v1 : Int32)  (σ : fhM) {o : Int32} (h : f_X12_octet v1 σ = some o) : fhC fhYM E d miX12_octet [.ref 0, .int v1] σ (some (.int o)) σ := by
  refine fhC.of (y := yX12_octet) (cc := cX12_octet) (nL := 2) (ret := (some .int)) 12 rfl (by decide +kernel) (Nat.le_of_ble_eq_true rfl) ?_
  intro Γ hΓ hR hD hEn
  subst hD; subst hEn
  exact L_X12_octet_E hΓ hd v1  σ _ h hR
set_option maxRecDepth 100000 in
set_option maxHeartbeats 4000000 in
theorem L_X12_status_E {Γ : fhX} (hΓ : fhOk fhYM 12 cX12_status 2 (some .int) Γ) (hd : 1 ≤ fhD Γ) (v1 : Int32)  (σ : fhM) (o : Int32) (h : f_X12_status v1 σ = some o) (hk : (fun o => fhRet Γ (some (.int o)) σ) o) : fhW fhYM Γ 0 [(0, .ref 0), (1, .int v1)] [] σ := by
  unfold f_X12_status at h
  refine fhW.blk fhPM fhLL hΓ [(.iload_n 1, 0), (.i2l, 0), (.lconst 0, 0), (.ldc2_w 509, 0)] (pc' := 6) (lv' := [(0, .ref 0), (1, .int v1)]) (st' := [.long (5 : Int64), .long (0 : Int64), .long (Int32.toInt64 v1)]) (σ' := σ) (by decide +kernel) rfl rfl rfl ?_
  refine fhW.calls hΓ msX12_isIn ml_12_305 (av := [.long (Int32.toInt64 v1), .long (0 : Int64), .long (5 : Int64)]) (rest := []) (r := (some (.int (fhb (f_X12_isIn (Int32.toInt64 v1) (0 : Int64) (5 : Int64) σ))))) (σ' := σ) (T_X12_isIn (E := fhEn Γ) (d := fhD Γ - 1) (by omega) (Int32.toInt64 v1) (0 : Int64) (5 : Int64) σ) (by omega) (by decide +kernel) rfl (Nat.le_of_ble_eq_true rfl) rfl ?_
  show fhW fhYM Γ 9 [(0, .ref 0), (1, .int v1)] [.int (fhb (f_X12_isIn (Int32.toInt64 v1) (0 : Int64) (5 : Int64) σ))] σ
  refine fhW.b_eq hΓ (tgt := 21) (show fhbk _ _ (.ifCond .eq (12)) _ = true by decide +kernel) (fun hc => ?_) (fun hc => ?_)
  · rw [if_neg hc] at h
    refine fhW.blk fhPM fhLL hΓ [(.iconst (-1), -1)] (pc' := 22) (lv' := [(0, .ref 0), (1, .int v1)]) (st' := [.int (-1 : Int32)]) (σ' := σ) (by decide +kernel) rfl rfl rfl ?_
    have e9 := Option.some.inj h
    subst e9
    exact fhW.iret hΓ (by decide +kernel) hk
  · rw [if_pos hc] at h
    obtain ⟨hg1, h⟩ := fhif h
    refine fhW.blk fhPM fhLL hΓ [(.aload_n 0, 0), (.getfield 17, 0), (.iload_n 1, 0), (.iaload, 0)] (pc' := 18) (lv' := [(0, .ref 0), (1, .int v1)]) (st' := [.int (σ.1 2 (fhix v1))]) (σ' := σ) (by decide +kernel) rfl rfl hg1 ?_
    refine fhW.goto hΓ (off := 4) (tgt := 22) (by decide +kernel) ?_
    have e9 := Option.some.inj h
    subst e9
    exact fhW.iret hΓ (by decide +kernel) hk
set_option maxRecDepth 100000 in
theorem T_X12_status {E : fhE} {d : Nat} (hd : 1 ≤ d) (v1 : Int32)  (σ : fhM) {o : Int32} (h : f_X12_status v1 σ = some o) : fhC fhYM E d miX12_status [.ref 0, .int v1] σ (some (.int o)) σ := by
  refine fhC.of (y := yX12_status) (cc := cX12_status) (nL := 2) (ret := (some .int)) 12 rfl (by decide +kernel) (Nat.le_of_ble_eq_true rfl) ?_
  intro Γ hΓ hR hD hEn
  subst hD; subst hEn
  exact L_X12_status_E hΓ hd v1  σ _ h hR
set_option maxRecDepth 100000 in
set_option maxHeartbeats 4000000 in
theorem L_X12_image_60 {Γ : fhX} (hΓ : fhOk fhYM 12 cX12_image 4 (some .int) Γ) (hd : 2 ≤ fhD Γ) (v1 : Int32) (v2 : Int32) (v3 : Int32)  (σ : fhM) (o : (Int32 × Int32) ⊕ ((Int32 × fhM) ⊕ (Int32 × fhM))) (h : f_X12_image_60 v1 v2 v3 σ = some o) (hk : (fhK (fun x => fhW fhYM Γ 60 [(0, .ref 0), (1, .int v1), (2, .int x.1), (3, .int x.2)] [] σ) (fhK (fun x => fhW fhYM Γ 48 [(0, .ref 0), (1, .int x.1)] [] x.2) (fun o => fhRet Γ (some (.int o.1)) o.2))) o) : fhW fhYM Γ 60 [(0, .ref 0), (1, .int v1), (2, .int v2), (3, .int v3)] [] σ := by
  unfold f_X12_image_60 at h
  refine fhW.blk fhPM fhLL hΓ [(.iload_n 3, 0), (.bipush 8, 8)] (pc' := 63) (lv' := [(0, .ref 0), (1, .int v1), (2, .int v2), (3, .int v3)]) (st' := [.int (8 : Int32), .int v3]) (σ' := σ) (by decide +kernel) rfl rfl rfl ?_
  refine fhW.i_ge hΓ (tgt := 87) (show fhbk _ _ (.if_icmp .ge (24)) _ = true by decide +kernel) (fun hc => ?_) (fun hc => ?_)
  · rw [if_pos hc] at h
    refine fhW.blk fhPM fhLL hΓ [(.aload_n 0, 0), (.iload_n 2, 0)] (pc' := 89) (lv' := [(0, .ref 0), (1, .int v1), (2, .int v2), (3, .int v3)]) (st' := [.int v2, .ref 0]) (σ' := σ) (by decide +kernel) rfl rfl rfl ?_
    obtain ⟨q6, hb1, h⟩ := Option.bind_eq_some_iff.mp h
    refine fhW.callv hΓ mvX12_writes ml_12_709 (t := 0) (ci := 12) (av := [.int v2]) (rest := []) (r := none) (σ' := q6) (T_X12_writes (E := fhEn Γ) (d := fhD Γ - 1) (by omega) v2 σ hb1) (by omega) (by decide +kernel) rfl rfl rfl (Nat.le_of_ble_eq_true rfl) rfl ?_
    show fhW fhYM Γ 92 [(0, .ref 0), (1, .int v1), (2, .int v2), (3, .int v3)] [] q6
    refine fhW.blk fhPM fhLL hΓ [(.iinc 1 8, 8)] (pc' := 95) (lv' := [(1, .int (v1 + (8 : Int32))), (0, .ref 0), (2, .int v2), (3, .int v3)]) (st' := []) (σ' := q6) (by decide +kernel) rfl rfl rfl ?_
    refine fhW.goto hΓ (off := (-47)) (tgt := 48) (by decide +kernel) ?_
    refine fhW.sub (lv' := [(0, .ref 0), (1, .int (v1 + (8 : Int32)))]) [1, 0] rfl ?_
    have e9 := Option.some.inj h
    subst e9
    exact hk
  · rw [if_neg hc] at h
    obtain ⟨hg1, h⟩ := fhif h
    refine fhW.blk fhPM fhLL hΓ [(.iload_n 2, 0), (.aload_n 0, 0), (.getfield 147, 0), (.iconst 2, 2), (.iload_n 1, 0), (.iadd, 0), (.iload_n 3, 0), (.iadd, 0), (.iaload, 0), (.iload_n 3, 0), (.ishl, 0), (.ior, 0), (.istore_n 2, 0)] (pc' := 81) (lv' := [(2, .int (v2 ||| ((σ.1 44 (fhix (((2 : Int32) + v1) + v3))) <<< (v3 &&& 31)))), (0, .ref 0), (1, .int v1), (3, .int v3)]) (st' := []) (σ' := σ) (by decide +kernel) rfl rfl hg1 ?_
    obtain ⟨w2_1, e1, h⟩ := fhlet_elim h
    rw [← e1]
    refine fhW.blk fhPM fhLL hΓ [(.iinc 3 1, 1)] (pc' := 84) (lv' := [(3, .int (v3 + (1 : Int32))), (2, .int w2_1), (0, .ref 0), (1, .int v1)]) (st' := []) (σ' := σ) (by decide +kernel) rfl rfl rfl ?_
    refine fhW.goto hΓ (off := (-24)) (tgt := 60) (by decide +kernel) ?_
    refine fhW.sub (lv' := [(0, .ref 0), (1, .int v1), (2, .int w2_1), (3, .int (v3 + (1 : Int32)))]) [2, 3, 1, 0] rfl ?_
    have e9 := Option.some.inj h
    subst e9
    exact hk
set_option maxRecDepth 100000 in
set_option maxHeartbeats 4000000 in
theorem L_X12_image_48 {Γ : fhX} (hΓ : fhOk fhYM 12 cX12_image 4 (some .int) Γ) (hd : 2 ≤ fhD Γ) (v1 : Int32)  (σ : fhM) (o : (Int32 × fhM) ⊕ (Int32 × fhM)) (h : f_X12_image_48 v1 σ = some o) (hk : (fhK (fun x => fhW fhYM Γ 48 [(0, .ref 0), (1, .int x.1)] [] x.2) (fun o => fhRet Γ (some (.int o.1)) o.2)) o) : fhW fhYM Γ 48 [(0, .ref 0), (1, .int v1)] [] σ := by
  unfold f_X12_image_48 at h
  refine fhW.blk fhPM fhLL hΓ [(.iload_n 1, 0), (.aload_n 0, 0), (.getfield 432, 0)] (pc' := 53) (lv' := [(0, .ref 0), (1, .int v1)]) (st' := [.int (σ.1 0 52), .int v1]) (σ' := σ) (by decide +kernel) rfl rfl rfl ?_
  refine fhW.i_ge hΓ (tgt := 98) (show fhbk _ _ (.if_icmp .ge (45)) _ = true by decide +kernel) (fun hc => ?_) (fun hc => ?_)
  · rw [if_pos hc] at h
    refine fhW.blk fhPM fhLL hΓ [(.aload_n 0, 0), (.aload_n 0, 0), (.getfield 256, 0), (.aload_n 0, 0), (.getfield 706, 0)] (pc' := 107) (lv' := [(0, .ref 0), (1, .int v1)]) (st' := [.int (σ.1 0 109), .ref 79, .ref 0]) (σ' := σ) (by decide +kernel) rfl rfl rfl ?_
    obtain ⟨q4, hb2, h⟩ := Option.bind_eq_some_iff.mp h
    refine fhW.calls hΓ msX12_checked ml_12_715 (av := [.ref 79, .int (σ.1 0 109)]) (rest := [.ref 0]) (r := (some (.int q4))) (σ' := σ) (T_X12_checked (E := fhEn Γ) (d := fhD Γ - 1) (by omega) 79 (σ.1 0 109) rfl σ hb2) (by omega) (by decide +kernel) rfl (Nat.le_of_ble_eq_true rfl) rfl ?_
    show fhW fhYM Γ 110 [(0, .ref 0), (1, .int v1)] [.int q4, .ref 0] σ
    obtain ⟨q5, hb3, h⟩ := Option.bind_eq_some_iff.mp h
    refine fhW.callv hΓ mvX12_writes ml_12_709 (t := 0) (ci := 12) (av := [.int q4]) (rest := []) (r := none) (σ' := q5) (T_X12_writes (E := fhEn Γ) (d := fhD Γ - 1) (by omega) q4 σ hb3) (by omega) (by decide +kernel) rfl rfl rfl (Nat.le_of_ble_eq_true rfl) rfl ?_
    show fhW fhYM Γ 113 [(0, .ref 0), (1, .int v1)] [] q5
    refine fhW.blk fhPM fhLL hΓ [(.aload_n 0, 0), (.getfield 706, 0)] (pc' := 117) (lv' := [(0, .ref 0), (1, .int v1)]) (st' := [.int (q5.1 0 109)]) (σ' := q5) (by decide +kernel) rfl rfl rfl ?_
    have e9 := Option.some.inj h
    subst e9
    exact fhW.iret hΓ (by decide +kernel) hk
  · rw [if_neg hc] at h
    refine fhW.blk fhPM fhLL hΓ [(.iconst 0, 0), (.istore_n 2, 0), (.iconst 0, 0), (.istore_n 3, 0)] (pc' := 60) (lv' := [(3, .int (0 : Int32)), (2, .int (0 : Int32)), (0, .ref 0), (1, .int v1)]) (st' := []) (σ' := σ) (by decide +kernel) rfl rfl rfl ?_
    refine fhW.sub (lv' := [(0, .ref 0), (1, .int v1), (2, .int (0 : Int32)), (3, .int (0 : Int32))]) [2, 3, 1, 0] rfl ?_
    exact fhlp_ok (W := (fun x => fhW fhYM Γ 60 [(0, .ref 0), (1, .int v1), (2, .int x.1), (3, .int x.2)] [] σ)) (B := (fhK (fun x => fhW fhYM Γ 48 [(0, .ref 0), (1, .int x.1)] [] x.2) (fun o => fhRet Γ (some (.int o.1)) o.2))) (fun x o h hk => L_X12_image_60 hΓ hd v1 x.1 x.2 σ o h hk) ((0 : Int32), (0 : Int32)) _ h hk
set_option maxRecDepth 100000 in
set_option maxHeartbeats 4000000 in
theorem L_X12_image_17 {Γ : fhX} (hΓ : fhOk fhYM 12 cX12_image 4 (some .int) Γ) (hd : 2 ≤ fhD Γ) (v1 : Int32)  (σ : fhM) (o : (Int32 × fhM) ⊕ (Int32 × fhM)) (h : f_X12_image_17 v1 σ = some o) (hk : (fhK (fun x => fhW fhYM Γ 17 [(0, .ref 0), (1, .int x.1)] [] x.2) (fun o => fhRet Γ (some (.int o.1)) o.2)) o) : fhW fhYM Γ 17 [(0, .ref 0), (1, .int v1)] [] σ := by
  unfold f_X12_image_17 at h
  refine fhW.blk fhPM fhLL hΓ [(.iload_n 1, 0), (.aload_n 0, 0)] (pc' := 19) (lv' := [(0, .ref 0), (1, .int v1)]) (st' := [.ref 0, .int v1]) (σ' := σ) (by decide +kernel) rfl rfl rfl ?_
  refine fhW.callv hΓ mvX12_guestMany ml_12_423 (t := 0) (ci := 12) (av := []) (rest := [.int v1]) (r := (some (.int (f_X12_guestMany σ)))) (σ' := σ) (T_X12_guestMany (E := fhEn Γ) (d := fhD Γ - 1) (by omega) σ) (by omega) (by decide +kernel) rfl rfl rfl (Nat.le_of_ble_eq_true rfl) rfl ?_
  show fhW fhYM Γ 22 [(0, .ref 0), (1, .int v1)] [.int (f_X12_guestMany σ), .int v1] σ
  refine fhW.i_ge hΓ (tgt := 46) (show fhbk _ _ (.if_icmp .ge (24)) _ = true by decide +kernel) (fun hc => ?_) (fun hc => ?_)
  · rw [if_pos hc] at h
    refine fhW.blk fhPM fhLL hΓ [(.iconst 0, 0), (.istore_n 1, 0)] (pc' := 48) (lv' := [(1, .int (0 : Int32)), (0, .ref 0)]) (st' := []) (σ' := σ) (by decide +kernel) rfl rfl rfl ?_
    refine fhW.sub (lv' := [(0, .ref 0), (1, .int (0 : Int32))]) [1, 0] rfl ?_
    obtain ⟨z1, hz, e2⟩ := Option.map_eq_some_iff.mp h
    clear h
    subst e2
    have h := hz
    have hk : (fun o => fhRet Γ (some (.int o.1)) o.2) z1 := hk
    exact fhlp_ok (W := (fun x => fhW fhYM Γ 48 [(0, .ref 0), (1, .int x.1)] [] x.2)) (B := (fun o => fhRet Γ (some (.int o.1)) o.2)) (fun x o h hk => L_X12_image_48 hΓ hd x.1 x.2 o h hk) ((0 : Int32), σ) _ h hk
  · rw [if_neg hc] at h
    refine fhW.blk fhPM fhLL hΓ [(.aload_n 0, 0), (.aload_n 0, 0), (.aload_n 0, 0), (.getfield 147, 0), (.iconst 1, 1), (.iaload, 0), (.iload_n 1, 0)] (pc' := 34) (lv' := [(0, .ref 0), (1, .int v1)]) (st' := [.int v1, .int (σ.1 44 1), .ref 0, .ref 0]) (σ' := σ) (by decide +kernel) rfl rfl rfl ?_
    obtain ⟨q2, hb4, h⟩ := Option.bind_eq_some_iff.mp h
    refine fhW.callv hΓ mvX12_markOf ml_12_429 (t := 0) (ci := 12) (av := [.int (σ.1 44 1), .int v1]) (rest := [.ref 0]) (r := (some (.int q2))) (σ' := σ) (T_X12_markOf (E := fhEn Γ) (d := fhD Γ - 1) (by omega) (σ.1 44 1) v1 σ hb4) (by omega) (by decide +kernel) rfl rfl rfl (Nat.le_of_ble_eq_true rfl) rfl ?_
    show fhW fhYM Γ 37 [(0, .ref 0), (1, .int v1)] [.int q2, .ref 0] σ
    obtain ⟨q3, hb5, h⟩ := Option.bind_eq_some_iff.mp h
    refine fhW.callv hΓ mvX12_writes ml_12_709 (t := 0) (ci := 12) (av := [.int q2]) (rest := []) (r := none) (σ' := q3) (T_X12_writes (E := fhEn Γ) (d := fhD Γ - 1) (by omega) q2 σ hb5) (by omega) (by decide +kernel) rfl rfl rfl (Nat.le_of_ble_eq_true rfl) rfl ?_
    show fhW fhYM Γ 40 [(0, .ref 0), (1, .int v1)] [] q3
    refine fhW.blk fhPM fhLL hΓ [(.iinc 1 1, 1)] (pc' := 43) (lv' := [(1, .int (v1 + (1 : Int32))), (0, .ref 0)]) (st' := []) (σ' := q3) (by decide +kernel) rfl rfl rfl ?_
    refine fhW.goto hΓ (off := (-26)) (tgt := 17) (by decide +kernel) ?_
    refine fhW.sub (lv' := [(0, .ref 0), (1, .int (v1 + (1 : Int32)))]) [1, 0] rfl ?_
    have e9 := Option.some.inj h
    subst e9
    exact hk
set_option maxRecDepth 100000 in
set_option maxHeartbeats 4000000 in
theorem L_X12_image_E {Γ : fhX} (hΓ : fhOk fhYM 12 cX12_image 4 (some .int) Γ) (hd : 2 ≤ fhD Γ)   (σ : fhM) (o : Int32 × fhM) (h : f_X12_image σ = some o) (hk : (fun o => fhRet Γ (some (.int o.1)) o.2) o) : fhW fhYM Γ 0 [(0, .ref 0)] [] σ := by
  unfold f_X12_image at h
  refine fhW.blk fhPM fhLL hΓ [(.aload_n 0, 0), (.iconst 0, 0), (.putfield 706, 0), (.aload_n 0, 0), (.aload_n 0, 0), (.getfield 147, 0), (.iconst 0, 0), (.iaload, 0)] (pc' := 12) (lv' := [(0, .ref 0)]) (st' := [.int (σ.1 44 0), .ref 0]) (σ' := (fhI σ 0 109 (0 : Int32))) (by decide +kernel) rfl rfl rfl ?_
  obtain ⟨q1, hb6, h⟩ := Option.bind_eq_some_iff.mp h
  refine fhW.callv hΓ mvX12_writesTwo ml_12_712 (t := 0) (ci := 12) (av := [.int (σ.1 44 0)]) (rest := []) (r := none) (σ' := q1) (T_X12_writesTwo (E := fhEn Γ) (d := fhD Γ - 1) (by omega) (σ.1 44 0) (fhI σ 0 109 (0 : Int32)) hb6) (by omega) (by decide +kernel) rfl rfl rfl (Nat.le_of_ble_eq_true rfl) rfl ?_
  show fhW fhYM Γ 15 [(0, .ref 0)] [] q1
  refine fhW.blk fhPM fhLL hΓ [(.iconst 0, 0), (.istore_n 1, 0)] (pc' := 17) (lv' := [(1, .int (0 : Int32)), (0, .ref 0)]) (st' := []) (σ' := q1) (by decide +kernel) rfl rfl rfl ?_
  refine fhW.sub (lv' := [(0, .ref 0), (1, .int (0 : Int32))]) [1, 0] rfl ?_
  exact fhlp_ok (W := (fun x => fhW fhYM Γ 17 [(0, .ref 0), (1, .int x.1)] [] x.2)) (B := (fun o => fhRet Γ (some (.int o.1)) o.2)) (fun x o h hk => L_X12_image_17 hΓ hd x.1 x.2 o h hk) ((0 : Int32), q1) _ h hk
set_option maxRecDepth 100000 in
theorem T_X12_image {E : fhE} {d : Nat} (hd : 2 ≤ d)   (σ : fhM) {o : Int32 × fhM} (h : f_X12_image σ = some o) : fhC fhYM E d miX12_image [.ref 0] σ (some (.int o.1)) o.2 := by
  refine fhC.of (y := yX12_image) (cc := cX12_image) (nL := 4) (ret := (some .int)) 12 rfl (by decide +kernel) (Nat.le_of_ble_eq_true rfl) ?_
  intro Γ hΓ hR hD hEn
  subst hD; subst hEn
  exact L_X12_image_E hΓ hd   σ _ h hR
set_option maxRecDepth 100000 in
set_option maxHeartbeats 4000000 in
theorem L_X12_isImage_205 {Γ : fhX} (hΓ : fhOk fhYM 12 cX12_isImage 6 (some .boolean) Γ) (hd : 1 ≤ fhD Γ) (v2 : Int32) (v3 : Int32) (v4 : Int32)  (σ : fhM) (o : (Int32) ⊕ (Bool)) (h : f_X12_isImage_205 v2 v3 v4 σ = some o) (hk : (fhK (fun x => fhW fhYM Γ 119 [(0, .ref 0), (2, .int v2), (3, .int v3), (4, .int x)] [] σ) (fun o => fhRet Γ (some (.int (fhb o))) σ)) o) : fhW fhYM Γ 205 [(0, .ref 0), (2, .int v2), (3, .int v3), (4, .int v4)] [] σ := by
  unfold f_X12_isImage_205 at h
  refine fhW.blk fhPM fhLL hΓ [(.iinc 4 1, 1)] (pc' := 208) (lv' := [(4, .int (v4 + (1 : Int32))), (0, .ref 0), (2, .int v2), (3, .int v3)]) (st' := []) (σ' := σ) (by decide +kernel) rfl rfl rfl ?_
  refine fhW.goto hΓ (off := (-89)) (tgt := 119) (by decide +kernel) ?_
  refine fhW.sub (lv' := [(0, .ref 0), (2, .int v2), (3, .int v3), (4, .int (v4 + (1 : Int32)))]) [1, 2, 3, 0] rfl ?_
  have e9 := Option.some.inj h
  subst e9
  exact hk
set_option maxRecDepth 100000 in
set_option maxHeartbeats 4000000 in
theorem L_X12_isImage_192 {Γ : fhX} (hΓ : fhOk fhYM 12 cX12_isImage 6 (some .boolean) Γ) (hd : 1 ≤ fhD Γ) (v2 : Int32) (v3 : Int32) (v4 : Int32) (v5 : Int32)  (σ : fhM) (o : (Int32) ⊕ (Bool)) (h : f_X12_isImage_192 v2 v3 v4 v5 σ = some o) (hk : (fhK (fun x => fhW fhYM Γ 119 [(0, .ref 0), (2, .int v2), (3, .int v3), (4, .int x)] [] σ) (fun o => fhRet Γ (some (.int (fhb o))) σ)) o) : fhW fhYM Γ 192 [(0, .ref 0), (2, .int v2), (3, .int v3), (4, .int v4), (5, .int v5)] [] σ := by
  unfold f_X12_isImage_192 at h
  refine fhW.blk fhPM fhLL hΓ [(.iload 5, 0)] (pc' := 194) (lv' := [(0, .ref 0), (2, .int v2), (3, .int v3), (4, .int v4), (5, .int v5)]) (st' := [.int v5]) (σ' := σ) (by decide +kernel) rfl rfl rfl ?_
  refine fhW.z_ne hΓ (tgt := 205) (show fhbk _ _ (.ifCond .ne (11)) _ = true by decide +kernel) (fun hc => ?_) (fun hc => ?_)
  · rw [if_neg hc] at h
    refine fhW.sub (lv' := [(0, .ref 0), (2, .int v2), (3, .int v3), (4, .int v4)]) [0, 1, 2, 3] rfl ?_
    exact L_X12_isImage_205 hΓ hd v2 v3 v4 σ _ h hk
  · rw [if_pos hc] at h
    refine fhW.blk fhPM fhLL hΓ [(.iload 4, 0), (.iload_n 3, 0)] (pc' := 200) (lv' := [(0, .ref 0), (2, .int v2), (3, .int v3), (4, .int v4), (5, .int v5)]) (st' := [.int v3, .int v4]) (σ' := σ) (by decide +kernel) rfl rfl rfl ?_
    refine fhW.i_ne hΓ (tgt := 205) (show fhbk _ _ (.if_icmp .ne (5)) _ = true by decide +kernel) (fun hc => ?_) (fun hc => ?_)
    · rw [if_neg hc] at h
      refine fhW.sub (lv' := [(0, .ref 0), (2, .int v2), (3, .int v3), (4, .int v4)]) [0, 1, 2, 3] rfl ?_
      exact L_X12_isImage_205 hΓ hd v2 v3 v4 σ _ h hk
    · rw [if_pos hc] at h
      refine fhW.blk fhPM fhLL hΓ [(.iconst 0, 0)] (pc' := 204) (lv' := [(0, .ref 0), (2, .int v2), (3, .int v3), (4, .int v4), (5, .int v5)]) (st' := [.int (0 : Int32)]) (σ' := σ) (by decide +kernel) rfl rfl rfl ?_
      have e9 := Option.some.inj h
      subst e9
      exact fhW.zret (v := false) hΓ (by decide +kernel) hk
set_option maxRecDepth 100000 in
set_option maxHeartbeats 4000000 in
theorem L_X12_isImage_166 {Γ : fhX} (hΓ : fhOk fhYM 12 cX12_isImage 6 (some .boolean) Γ) (hd : 1 ≤ fhD Γ) (v2 : Int32) (v3 : Int32) (v4 : Int32) (s0 : Int32)  (σ : fhM) (o : (Int32) ⊕ (Bool)) (h : f_X12_isImage_166 v2 v3 v4 s0 σ = some o) (hk : (fhK (fun x => fhW fhYM Γ 119 [(0, .ref 0), (2, .int v2), (3, .int v3), (4, .int x)] [] σ) (fun o => fhRet Γ (some (.int (fhb o))) σ)) o) : fhW fhYM Γ 166 [(0, .ref 0), (2, .int v2), (3, .int v3), (4, .int v4)] [.int s0] σ := by
  unfold f_X12_isImage_166 at h
  refine fhW.blk fhPM fhLL hΓ [(.istore 5, 0), (.iload 5, 0)] (pc' := 170) (lv' := [(5, .int s0), (0, .ref 0), (2, .int v2), (3, .int v3), (4, .int v4)]) (st' := [.int s0]) (σ' := σ) (by decide +kernel) rfl rfl rfl ?_
  refine fhW.z_eq hΓ (tgt := 192) (show fhbk _ _ (.ifCond .eq (22)) _ = true by decide +kernel) (fun hc => ?_) (fun hc => ?_)
  · rw [if_pos hc] at h
    refine fhW.sub (lv' := [(0, .ref 0), (2, .int v2), (3, .int v3), (4, .int v4), (5, .int s0)]) [1, 2, 3, 4, 0] rfl ?_
    exact L_X12_isImage_192 hΓ hd v2 v3 v4 s0 σ _ h hk
  · rw [if_neg hc] at h
    refine fhW.blk fhPM fhLL hΓ [(.iload 4, 0), (.aload_n 0, 0), (.getfield 432, 0)] (pc' := 179) (lv' := [(5, .int s0), (0, .ref 0), (2, .int v2), (3, .int v3), (4, .int v4)]) (st' := [.int (σ.1 0 52), .int v4]) (σ' := σ) (by decide +kernel) rfl rfl rfl ?_
    refine fhW.i_ge hΓ (tgt := 203) (show fhbk _ _ (.if_icmp .ge (24)) _ = true by decide +kernel) (fun hc => ?_) (fun hc => ?_)
    · rw [if_pos hc] at h
      refine fhW.blk fhPM fhLL hΓ [(.iconst 0, 0)] (pc' := 204) (lv' := [(5, .int s0), (0, .ref 0), (2, .int v2), (3, .int v3), (4, .int v4)]) (st' := [.int (0 : Int32)]) (σ' := σ) (by decide +kernel) rfl rfl rfl ?_
      have e9 := Option.some.inj h
      subst e9
      exact fhW.zret (v := false) hΓ (by decide +kernel) hk
    · rw [if_neg hc] at h
      obtain ⟨hg1, h⟩ := fhif h
      refine fhW.blk fhPM fhLL hΓ [(.aload_n 0, 0), (.getfield 124, 0), (.iload 4, 0), (.baload, 0)] (pc' := 189) (lv' := [(5, .int s0), (0, .ref 0), (2, .int v2), (3, .int v3), (4, .int v4)]) (st' := [.int (σ.1 37 (fhix v4))]) (σ' := σ) (by decide +kernel) rfl rfl hg1 ?_
      refine fhW.z_eq hΓ (tgt := 203) (show fhbk _ _ (.ifCond .eq (14)) _ = true by decide +kernel) (fun hc => ?_) (fun hc => ?_)
      · rw [if_pos hc] at h
        refine fhW.blk fhPM fhLL hΓ [(.iconst 0, 0)] (pc' := 204) (lv' := [(5, .int s0), (0, .ref 0), (2, .int v2), (3, .int v3), (4, .int v4)]) (st' := [.int (0 : Int32)]) (σ' := σ) (by decide +kernel) rfl rfl rfl ?_
        have e9 := Option.some.inj h
        subst e9
        exact fhW.zret (v := false) hΓ (by decide +kernel) hk
      · rw [if_neg hc] at h
        refine fhW.sub (lv' := [(0, .ref 0), (2, .int v2), (3, .int v3), (4, .int v4), (5, .int s0)]) [1, 2, 3, 4, 0] rfl ?_
        exact L_X12_isImage_192 hΓ hd v2 v3 v4 s0 σ _ h hk
set_option maxRecDepth 100000 in
set_option maxHeartbeats 4000000 in
theorem L_X12_isImage_119 {Γ : fhX} (hΓ : fhOk fhYM 12 cX12_isImage 6 (some .boolean) Γ) (hd : 1 ≤ fhD Γ) (v2 : Int32) (v3 : Int32) (v4 : Int32)  (σ : fhM) (o : (Int32) ⊕ (Bool)) (h : f_X12_isImage_119 v2 v3 v4 σ = some o) (hk : (fhK (fun x => fhW fhYM Γ 119 [(0, .ref 0), (2, .int v2), (3, .int v3), (4, .int x)] [] σ) (fun o => fhRet Γ (some (.int (fhb o))) σ)) o) : fhW fhYM Γ 119 [(0, .ref 0), (2, .int v2), (3, .int v3), (4, .int v4)] [] σ := by
  unfold f_X12_isImage_119 at h
  refine fhW.blk fhPM fhLL hΓ [(.iload 4, 0), (.bipush 8, 8), (.aload_n 0, 0), (.getfield 432, 0), (.bipush 7, 7), (.iadd, 0), (.bipush 8, 8), (.idiv, 0), (.imul, 0)] (pc' := 134) (lv' := [(0, .ref 0), (2, .int v2), (3, .int v3), (4, .int v4)]) (st' := [.int ((8 : Int32) * (((σ.1 0 52) + (7 : Int32)) / (8 : Int32))), .int v4]) (σ' := σ) (by decide +kernel) rfl rfl rfl ?_
  refine fhW.i_ge hΓ (tgt := 211) (show fhbk _ _ (.if_icmp .ge (77)) _ = true by decide +kernel) (fun hc => ?_) (fun hc => ?_)
  · rw [if_pos hc] at h
    refine fhW.blk fhPM fhLL hΓ [(.iconst 1, 1)] (pc' := 212) (lv' := [(0, .ref 0), (2, .int v2), (3, .int v3), (4, .int v4)]) (st' := [.int (1 : Int32)]) (σ' := σ) (by decide +kernel) rfl rfl rfl ?_
    have e9 := Option.some.inj h
    subst e9
    exact fhW.zret (v := true) hΓ (by decide +kernel) hk
  · rw [if_neg hc] at h
    obtain ⟨hg2, h⟩ := fhif h
    refine fhW.blk fhPM fhLL hΓ [(.aload_n 0, 0), (.getfield 7, 0), (.iload_n 2, 0), (.iload 4, 0), (.bipush 8, 8), (.idiv, 0), (.iadd, 0), (.iaload, 0), (.iload 4, 0), (.bipush 8, 8), (.irem, 0), (.ishr, 0), (.iconst 1, 1), (.iand, 0), (.iconst 1, 1)] (pc' := 158) (lv' := [(0, .ref 0), (2, .int v2), (3, .int v3), (4, .int v4)]) (st' := [.int (1 : Int32), .int (((σ.1 1 (fhix (v2 + (v4 / (8 : Int32))))) >>> ((fhrem v4 (8 : Int32)) &&& 31)) &&& (1 : Int32))]) (σ' := σ) (by decide +kernel) rfl rfl hg2 ?_
    refine fhW.i_ne hΓ (tgt := 165) (show fhbk _ _ (.if_icmp .ne (7)) _ = true by decide +kernel) (fun hc => ?_) (fun hc => ?_)
    · simp only [if_neg hc] at h
      refine fhW.blk fhPM fhLL hΓ [(.iconst 0, 0)] (pc' := 166) (lv' := [(0, .ref 0), (2, .int v2), (3, .int v3), (4, .int v4)]) (st' := [.int (0 : Int32)]) (σ' := σ) (by decide +kernel) rfl rfl rfl ?_
      refine fhW.sub (lv' := [(0, .ref 0), (2, .int v2), (3, .int v3), (4, .int v4)]) [0, 1, 2, 3] rfl ?_
      exact L_X12_isImage_166 hΓ hd v2 v3 v4 (0 : Int32) σ _ h hk
    · simp only [if_pos hc] at h
      refine fhW.blk fhPM fhLL hΓ [(.iconst 1, 1)] (pc' := 162) (lv' := [(0, .ref 0), (2, .int v2), (3, .int v3), (4, .int v4)]) (st' := [.int (1 : Int32)]) (σ' := σ) (by decide +kernel) rfl rfl rfl ?_
      refine fhW.goto hΓ (off := 4) (tgt := 166) (by decide +kernel) ?_
      refine fhW.sub (lv' := [(0, .ref 0), (2, .int v2), (3, .int v3), (4, .int v4)]) [0, 1, 2, 3] rfl ?_
      exact L_X12_isImage_166 hΓ hd v2 v3 v4 (1 : Int32) σ _ h hk
set_option maxRecDepth 100000 in
set_option maxHeartbeats 4000000 in
theorem L_X12_isImage_73 {Γ : fhX} (hΓ : fhOk fhYM 12 cX12_isImage 6 (some .boolean) Γ) (hd : 1 ≤ fhD Γ) (v2 : Int32) (v3 : Int32) (v4 : Int32)  (σ : fhM) (o : (Int32 × Int32) ⊕ (Bool)) (h : f_X12_isImage_73 v2 v3 v4 σ = some o) (hk : (fhK (fun x => fhW fhYM Γ 73 [(0, .ref 0), (2, .int v2), (3, .int x.1), (4, .int x.2)] [] σ) (fun o => fhRet Γ (some (.int (fhb o))) σ)) o) : fhW fhYM Γ 73 [(0, .ref 0), (2, .int v2), (3, .int v3), (4, .int v4)] [] σ := by
  unfold f_X12_isImage_73 at h
  refine fhW.blk fhPM fhLL hΓ [(.iload 4, 0), (.iconst 1, 1)] (pc' := 76) (lv' := [(0, .ref 0), (2, .int v2), (3, .int v3), (4, .int v4)]) (st' := [.int (1 : Int32), .int v4]) (σ' := σ) (by decide +kernel) rfl rfl rfl ?_
  refine fhW.i_le hΓ (tgt := 116) (show fhbk _ _ (.if_icmp .le (40)) _ = true by decide +kernel) (fun hc => ?_) (fun hc => ?_)
  · rw [if_pos hc] at h
    refine fhW.blk fhPM fhLL hΓ [(.iconst 0, 0), (.istore 4, 0)] (pc' := 119) (lv' := [(4, .int (0 : Int32)), (0, .ref 0), (2, .int v2), (3, .int v3)]) (st' := []) (σ' := σ) (by decide +kernel) rfl rfl rfl ?_
    refine fhW.sub (lv' := [(0, .ref 0), (2, .int v2), (3, .int v3), (4, .int (0 : Int32))]) [1, 2, 3, 0] rfl ?_
    obtain ⟨z1, hz, e1⟩ := Option.map_eq_some_iff.mp h
    clear h
    subst e1
    have h := hz
    have hk : (fun o => fhRet Γ (some (.int (fhb o))) σ) z1 := hk
    exact fhlp_ok (W := (fun x => fhW fhYM Γ 119 [(0, .ref 0), (2, .int v2), (3, .int v3), (4, .int x)] [] σ)) (B := (fun o => fhRet Γ (some (.int (fhb o))) σ)) (fun x o h hk => L_X12_isImage_119 hΓ hd v2 v3 x σ o h hk) (0 : Int32) _ h hk
  · rw [if_neg hc] at h
    obtain ⟨hg3, h⟩ := fhif h
    refine fhW.blk fhPM fhLL hΓ [(.aload_n 0, 0), (.getfield 7, 0), (.iload 4, 0), (.iaload, 0), (.aload_n 0, 0)] (pc' := 87) (lv' := [(0, .ref 0), (2, .int v2), (3, .int v3), (4, .int v4)]) (st' := [.ref 0, .int (σ.1 1 (fhix v4))]) (σ' := σ) (by decide +kernel) rfl rfl hg3 ?_
    refine fhW.callv hΓ mvX12_markMany ml_12_426 (t := 0) (ci := 12) (av := []) (rest := [.int (σ.1 1 (fhix v4))]) (r := (some (.int (f_X12_markMany σ)))) (σ' := σ) (T_X12_markMany (E := fhEn Γ) (d := fhD Γ - 1) (by omega) σ) (by omega) (by decide +kernel) rfl rfl rfl (Nat.le_of_ble_eq_true rfl) rfl ?_
    show fhW fhYM Γ 90 [(0, .ref 0), (2, .int v2), (3, .int v3), (4, .int v4)] [.int (f_X12_markMany σ), .int (σ.1 1 (fhix v4))] σ
    refine fhW.i_lt hΓ (tgt := 95) (show fhbk _ _ (.if_icmp .lt (5)) _ = true by decide +kernel) (fun hc => ?_) (fun hc => ?_)
    · rw [if_pos hc] at h
      refine fhW.blk fhPM fhLL hΓ [(.aload_n 0, 0)] (pc' := 96) (lv' := [(0, .ref 0), (2, .int v2), (3, .int v3), (4, .int v4)]) (st' := [.ref 0]) (σ' := σ) (by decide +kernel) rfl rfl rfl ?_
      refine fhW.callv hΓ mvX12_markMany ml_12_426 (t := 0) (ci := 12) (av := []) (rest := []) (r := (some (.int (f_X12_markMany σ)))) (σ' := σ) (T_X12_markMany (E := fhEn Γ) (d := fhD Γ - 1) (by omega) σ) (by omega) (by decide +kernel) rfl rfl rfl (Nat.le_of_ble_eq_true rfl) rfl ?_
      show fhW fhYM Γ 99 [(0, .ref 0), (2, .int v2), (3, .int v3), (4, .int v4)] [.int (f_X12_markMany σ)] σ
      obtain ⟨hg4, h⟩ := fhif h
      refine fhW.blk fhPM fhLL hΓ [(.iload_n 3, 0), (.imul, 0), (.aload_n 0, 0), (.getfield 7, 0), (.iload 4, 0), (.iaload, 0), (.iadd, 0), (.istore_n 3, 0)] (pc' := 110) (lv' := [(3, .int (((f_X12_markMany σ) * v3) + (σ.1 1 (fhix v4)))), (0, .ref 0), (2, .int v2), (4, .int v4)]) (st' := []) (σ' := σ) (by decide +kernel) rfl rfl hg4 ?_
      obtain ⟨w3_1, e2, h⟩ := fhlet_elim h
      rw [← e2]
      refine fhW.blk fhPM fhLL hΓ [(.iinc 4 (-1), -1)] (pc' := 113) (lv' := [(4, .int (v4 + (-1 : Int32))), (3, .int w3_1), (0, .ref 0), (2, .int v2)]) (st' := []) (σ' := σ) (by decide +kernel) rfl rfl rfl ?_
      refine fhW.goto hΓ (off := (-40)) (tgt := 73) (by decide +kernel) ?_
      refine fhW.sub (lv' := [(0, .ref 0), (2, .int v2), (3, .int w3_1), (4, .int (v4 + (-1 : Int32)))]) [2, 3, 1, 0] rfl ?_
      have e9 := Option.some.inj h
      subst e9
      exact hk
    · rw [if_neg hc] at h
      refine fhW.blk fhPM fhLL hΓ [(.iconst 0, 0)] (pc' := 94) (lv' := [(0, .ref 0), (2, .int v2), (3, .int v3), (4, .int v4)]) (st' := [.int (0 : Int32)]) (σ' := σ) (by decide +kernel) rfl rfl rfl ?_
      have e9 := Option.some.inj h
      subst e9
      exact fhW.zret (v := false) hΓ (by decide +kernel) hk
set_option maxRecDepth 100000 in
set_option maxHeartbeats 4000000 in
theorem L_X12_isImage_E {Γ : fhX} (hΓ : fhOk fhYM 12 cX12_isImage 6 (some .boolean) Γ) (hd : 1 ≤ fhD Γ) (v1 : Int32)  (σ : fhM) (o : Bool) (h : f_X12_isImage v1 σ = some o) (hk : (fun o => fhRet Γ (some (.int (fhb o))) σ) o) : fhW fhYM Γ 0 [(0, .ref 0), (1, .int v1)] [] σ := by
  unfold f_X12_isImage at h
  refine fhW.blk fhPM fhLL hΓ [(.iconst 2, 2), (.aload_n 0, 0)] (pc' := 2) (lv' := [(0, .ref 0), (1, .int v1)]) (st' := [.ref 0, .int (2 : Int32)]) (σ' := σ) (by decide +kernel) rfl rfl rfl ?_
  refine fhW.callv hΓ mvX12_guestMany ml_12_423 (t := 0) (ci := 12) (av := []) (rest := [.int (2 : Int32)]) (r := (some (.int (f_X12_guestMany σ)))) (σ' := σ) (T_X12_guestMany (E := fhEn Γ) (d := fhD Γ - 1) (by omega) σ) (by omega) (by decide +kernel) rfl rfl rfl (Nat.le_of_ble_eq_true rfl) rfl ?_
  show fhW fhYM Γ 5 [(0, .ref 0), (1, .int v1)] [.int (f_X12_guestMany σ), .int (2 : Int32)] σ
  refine fhW.blk fhPM fhLL hΓ [(.iadd, 0), (.istore_n 2, 0), (.aload_n 0, 0), (.getfield 441, 0)] (pc' := 11) (lv' := [(2, .int ((2 : Int32) + (f_X12_guestMany σ))), (0, .ref 0), (1, .int v1)]) (st' := [.int (σ.1 0 47)]) (σ' := σ) (by decide +kernel) rfl rfl rfl ?_
  refine fhW.z_eq hΓ (tgt := 64) (show fhbk _ _ (.ifCond .eq (53)) _ = true by decide +kernel) (fun hc => ?_) (fun hc => ?_)
  · rw [if_pos hc] at h
    refine fhW.blk fhPM fhLL hΓ [(.iconst 0, 0)] (pc' := 65) (lv' := [(2, .int ((2 : Int32) + (f_X12_guestMany σ))), (0, .ref 0), (1, .int v1)]) (st' := [.int (0 : Int32)]) (σ' := σ) (by decide +kernel) rfl rfl rfl ?_
    have e9 := Option.some.inj h
    subst e9
    exact fhW.zret (v := false) hΓ (by decide +kernel) hk
  · rw [if_neg hc] at h
    refine fhW.blk fhPM fhLL hΓ [(.iload_n 1, 0), (.iload_n 2, 0), (.aload_n 0, 0), (.getfield 432, 0), (.bipush 7, 7), (.iadd, 0), (.bipush 8, 8), (.idiv, 0), (.iadd, 0), (.iconst 1, 1), (.iadd, 0)] (pc' := 29) (lv' := [(2, .int ((2 : Int32) + (f_X12_guestMany σ))), (0, .ref 0), (1, .int v1)]) (st' := [.int ((((2 : Int32) + (f_X12_guestMany σ)) + (((σ.1 0 52) + (7 : Int32)) / (8 : Int32))) + (1 : Int32)), .int v1]) (σ' := σ) (by decide +kernel) rfl rfl rfl ?_
    refine fhW.i_ne hΓ (tgt := 64) (show fhbk _ _ (.if_icmp .ne (35)) _ = true by decide +kernel) (fun hc => ?_) (fun hc => ?_)
    · rw [if_neg hc] at h
      refine fhW.blk fhPM fhLL hΓ [(.iconst 0, 0)] (pc' := 65) (lv' := [(2, .int ((2 : Int32) + (f_X12_guestMany σ))), (0, .ref 0), (1, .int v1)]) (st' := [.int (0 : Int32)]) (σ' := σ) (by decide +kernel) rfl rfl rfl ?_
      have e9 := Option.some.inj h
      subst e9
      exact fhW.zret (v := false) hΓ (by decide +kernel) hk
    · rw [if_pos hc] at h
      obtain ⟨hg5, h⟩ := fhif h
      refine fhW.blk fhPM fhLL hΓ [(.aload_n 0, 0), (.getfield 7, 0), (.iload_n 1, 0), (.iconst 1, 1), (.isub, 0), (.iaload, 0), (.aload_n 0, 0), (.getfield 7, 0), (.iload_n 1, 0), (.iconst 1, 1), (.isub, 0)] (pc' := 47) (lv' := [(2, .int ((2 : Int32) + (f_X12_guestMany σ))), (0, .ref 0), (1, .int v1)]) (st' := [.int (v1 - (1 : Int32)), .ref 1, .int (σ.1 1 (fhix (v1 - (1 : Int32))))]) (σ' := σ) (by decide +kernel) rfl rfl hg5 ?_
      obtain ⟨q1, hb1, h⟩ := Option.bind_eq_some_iff.mp h
      refine fhW.calls hΓ msX12_checked ml_12_715 (av := [.ref 1, .int (v1 - (1 : Int32))]) (rest := [.int (σ.1 1 (fhix (v1 - (1 : Int32))))]) (r := (some (.int q1))) (σ' := σ) (T_X12_checked (E := fhEn Γ) (d := fhD Γ - 1) (by omega) 1 (v1 - (1 : Int32)) rfl σ hb1) (by omega) (by decide +kernel) rfl (Nat.le_of_ble_eq_true rfl) rfl ?_
      show fhW fhYM Γ 50 [(2, .int ((2 : Int32) + (f_X12_guestMany σ))), (0, .ref 0), (1, .int v1)] [.int q1, .int (σ.1 1 (fhix (v1 - (1 : Int32))))] σ
      refine fhW.i_ne hΓ (tgt := 64) (show fhbk _ _ (.if_icmp .ne (14)) _ = true by decide +kernel) (fun hc => ?_) (fun hc => ?_)
      · rw [if_neg hc] at h
        refine fhW.blk fhPM fhLL hΓ [(.iconst 0, 0)] (pc' := 65) (lv' := [(2, .int ((2 : Int32) + (f_X12_guestMany σ))), (0, .ref 0), (1, .int v1)]) (st' := [.int (0 : Int32)]) (σ' := σ) (by decide +kernel) rfl rfl rfl ?_
        have e9 := Option.some.inj h
        subst e9
        exact fhW.zret (v := false) hΓ (by decide +kernel) hk
      · rw [if_pos hc] at h
        refine fhW.blk fhPM fhLL hΓ [(.aload_n 0, 0), (.iconst 0, 0)] (pc' := 55) (lv' := [(2, .int ((2 : Int32) + (f_X12_guestMany σ))), (0, .ref 0), (1, .int v1)]) (st' := [.int (0 : Int32), .ref 0]) (σ' := σ) (by decide +kernel) rfl rfl rfl ?_
        obtain ⟨q2, hb2, h⟩ := Option.bind_eq_some_iff.mp h
        refine fhW.callv hΓ mvX12_twoAt ml_12_719 (t := 0) (ci := 12) (av := [.int (0 : Int32)]) (rest := []) (r := (some (.int q2))) (σ' := σ) (T_X12_twoAt (E := fhEn Γ) (d := fhD Γ - 1) (by omega) (0 : Int32) σ hb2) (by omega) (by decide +kernel) rfl rfl rfl (Nat.le_of_ble_eq_true rfl) rfl ?_
        show fhW fhYM Γ 58 [(2, .int ((2 : Int32) + (f_X12_guestMany σ))), (0, .ref 0), (1, .int v1)] [.int q2] σ
        refine fhW.blk fhPM fhLL hΓ [(.sipush 999, 999)] (pc' := 61) (lv' := [(2, .int ((2 : Int32) + (f_X12_guestMany σ))), (0, .ref 0), (1, .int v1)]) (st' := [.int (999 : Int32), .int q2]) (σ' := σ) (by decide +kernel) rfl rfl rfl ?_
        refine fhW.i_le hΓ (tgt := 66) (show fhbk _ _ (.if_icmp .le (5)) _ = true by decide +kernel) (fun hc => ?_) (fun hc => ?_)
        · rw [if_pos hc] at h
          refine fhW.blk fhPM fhLL hΓ [(.iconst 0, 0), (.istore_n 3, 0), (.iload_n 2, 0), (.iconst 1, 1), (.isub, 0), (.istore 4, 0)] (pc' := 73) (lv' := [(4, .int (((2 : Int32) + (f_X12_guestMany σ)) - (1 : Int32))), (3, .int (0 : Int32)), (2, .int ((2 : Int32) + (f_X12_guestMany σ))), (0, .ref 0), (1, .int v1)]) (st' := []) (σ' := σ) (by decide +kernel) rfl rfl rfl ?_
          obtain ⟨w4_1, e3, h⟩ := fhlet_elim h
          rw [← e3]
          refine fhW.sub (lv' := [(0, .ref 0), (2, .int ((2 : Int32) + (f_X12_guestMany σ))), (3, .int (0 : Int32)), (4, .int w4_1)]) [3, 2, 1, 0] rfl ?_
          exact fhlp_ok (W := (fun x => fhW fhYM Γ 73 [(0, .ref 0), (2, .int ((2 : Int32) + (f_X12_guestMany σ))), (3, .int x.1), (4, .int x.2)] [] σ)) (B := (fun o => fhRet Γ (some (.int (fhb o))) σ)) (fun x o h hk => L_X12_isImage_73 hΓ hd ((2 : Int32) + (f_X12_guestMany σ)) x.1 x.2 σ o h hk) ((0 : Int32), w4_1) _ h hk
        · rw [if_neg hc] at h
          refine fhW.blk fhPM fhLL hΓ [(.iconst 0, 0)] (pc' := 65) (lv' := [(2, .int ((2 : Int32) + (f_X12_guestMany σ))), (0, .ref 0), (1, .int v1)]) (st' := [.int (0 : Int32)]) (σ' := σ) (by decide +kernel) rfl rfl rfl ?_
          have e9 := Option.some.inj h
          subst e9
          exact fhW.zret (v := false) hΓ (by decide +kernel) hk
set_option maxRecDepth 100000 in
theorem T_X12_isImage {E : fhE} {d : Nat} (hd : 1 ≤ d) (v1 : Int32)  (σ : fhM) {o : Bool} (h : f_X12_isImage v1 σ = some o) : fhC fhYM E d miX12_isImage [.ref 0, .int v1] σ (some (.int (fhb o))) σ := by
  refine fhC.of (y := yX12_isImage) (cc := cX12_isImage) (nL := 6) (ret := (some .boolean)) 12 rfl (by decide +kernel) (Nat.le_of_ble_eq_true rfl) ?_
  intro Γ hΓ hR hD hEn
  subst hD; subst hEn
  exact L_X12_isImage_E hΓ hd v1  σ _ h hR
set_option maxRecDepth 100000 in
set_option maxHeartbeats 4000000 in
theorem L_X12_on_90 {Γ : fhX} (hΓ : fhOk fhYM 12 cX12_on 4 (some .boolean) Γ) (hd : 2 ≤ fhD Γ) (v2 : Int32) (v3 : Int32)  (σ : fhM) (o : (Int32 × fhM) ⊕ (Bool × fhM)) (h : f_X12_on_90 v2 v3 σ = some o) (hk : (fhK (fun x => fhW fhYM Γ 90 [(0, .ref 0), (2, .int v2), (3, .int x.1)] [] x.2) (fun o => fhRet Γ (some (.int (fhb o.1))) o.2)) o) : fhW fhYM Γ 90 [(0, .ref 0), (2, .int v2), (3, .int v3)] [] σ := by
  unfold f_X12_on_90 at h
  refine fhW.blk fhPM fhLL hΓ [(.iload_n 3, 0), (.aload_n 0, 0), (.getfield 432, 0)] (pc' := 95) (lv' := [(0, .ref 0), (2, .int v2), (3, .int v3)]) (st' := [.int (σ.1 0 52), .int v3]) (σ' := σ) (by decide +kernel) rfl rfl rfl ?_
  refine fhW.i_ge hΓ (tgt := 130) (show fhbk _ _ (.if_icmp .ge (35)) _ = true by decide +kernel) (fun hc => ?_) (fun hc => ?_)
  · rw [if_pos hc] at h
    refine fhW.blk fhPM fhLL hΓ [(.aload_n 0, 0), (.getfield 147, 0), (.sipush 1026, 1026), (.iconst 0, 0), (.iastore, 0), (.aload_n 0, 0), (.iconst 0, 0), (.putfield 454, 0), (.iconst 1, 1)] (pc' := 145) (lv' := [(0, .ref 0), (2, .int v2), (3, .int v3)]) (st' := [.int (1 : Int32)]) (σ' := (fhI (fhI σ 44 1026 (0 : Int32)) 0 71 (0 : Int32))) (by decide +kernel) rfl rfl rfl ?_
    have e9 := Option.some.inj h
    subst e9
    exact fhW.zret (v := true) hΓ (by decide +kernel) hk
  · rw [if_neg hc] at h
    obtain ⟨hg1, h⟩ := fhif h
    refine fhW.blk fhPM fhLL hΓ [(.aload_n 0, 0), (.getfield 147, 0), (.iconst 2, 2), (.iload_n 3, 0), (.iadd, 0), (.aload_n 0, 0), (.getfield 7, 0), (.iload_n 2, 0), (.iload_n 3, 0), (.bipush 8, 8), (.idiv, 0), (.iadd, 0), (.iaload, 0), (.iload_n 3, 0), (.bipush 8, 8), (.irem, 0), (.ishr, 0), (.iconst 1, 1), (.iand, 0), (.iastore, 0), (.iinc 3 1, 1)] (pc' := 127) (lv' := [(3, .int (v3 + (1 : Int32))), (0, .ref 0), (2, .int v2)]) (st' := []) (σ' := (fhI σ 44 (fhix ((2 : Int32) + v3)) (((σ.1 1 (fhix (v2 + (v3 / (8 : Int32))))) >>> ((fhrem v3 (8 : Int32)) &&& 31)) &&& (1 : Int32)))) (by decide +kernel) rfl rfl hg1 ?_
    refine fhW.goto hΓ (off := (-37)) (tgt := 90) (by decide +kernel) ?_
    refine fhW.sub (lv' := [(0, .ref 0), (2, .int v2), (3, .int (v3 + (1 : Int32)))]) [1, 2, 0] rfl ?_
    have e9 := Option.some.inj h
    subst e9
    exact hk
set_option maxRecDepth 100000 in
set_option maxHeartbeats 4000000 in
theorem L_X12_on_53 {Γ : fhX} (hΓ : fhOk fhYM 12 cX12_on 4 (some .boolean) Γ) (hd : 2 ≤ fhD Γ) (v2 : Int32) (v3 : Int32)  (σ : fhM) (o : (Int32 × fhM) ⊕ (Bool × fhM)) (h : f_X12_on_53 v2 v3 σ = some o) (hk : (fhK (fun x => fhW fhYM Γ 53 [(0, .ref 0), (2, .int v2), (3, .int x.1)] [] x.2) (fun o => fhRet Γ (some (.int (fhb o.1))) o.2)) o) : fhW fhYM Γ 53 [(0, .ref 0), (2, .int v2), (3, .int v3)] [] σ := by
  unfold f_X12_on_53 at h
  refine fhW.blk fhPM fhLL hΓ [(.iload_n 3, 0), (.iconst 1, 1)] (pc' := 55) (lv' := [(0, .ref 0), (2, .int v2), (3, .int v3)]) (st' := [.int (1 : Int32), .int v3]) (σ' := σ) (by decide +kernel) rfl rfl rfl ?_
  refine fhW.i_le hΓ (tgt := 88) (show fhbk _ _ (.if_icmp .le (33)) _ = true by decide +kernel) (fun hc => ?_) (fun hc => ?_)
  · rw [if_pos hc] at h
    refine fhW.blk fhPM fhLL hΓ [(.iconst 0, 0), (.istore_n 3, 0)] (pc' := 90) (lv' := [(3, .int (0 : Int32)), (0, .ref 0), (2, .int v2)]) (st' := []) (σ' := σ) (by decide +kernel) rfl rfl rfl ?_
    refine fhW.sub (lv' := [(0, .ref 0), (2, .int v2), (3, .int (0 : Int32))]) [1, 2, 0] rfl ?_
    obtain ⟨z1, hz, e1⟩ := Option.map_eq_some_iff.mp h
    clear h
    subst e1
    have h := hz
    have hk : (fun o => fhRet Γ (some (.int (fhb o.1))) o.2) z1 := hk
    exact fhlp_ok (W := (fun x => fhW fhYM Γ 90 [(0, .ref 0), (2, .int v2), (3, .int x.1)] [] x.2)) (B := (fun o => fhRet Γ (some (.int (fhb o.1))) o.2)) (fun x o h hk => L_X12_on_90 hΓ hd v2 x.1 x.2 o h hk) ((0 : Int32), σ) _ h hk
  · rw [if_neg hc] at h
    refine fhW.blk fhPM fhLL hΓ [(.aload_n 0, 0), (.getfield 147, 0), (.iconst 1, 1), (.aload_n 0, 0)] (pc' := 64) (lv' := [(0, .ref 0), (2, .int v2), (3, .int v3)]) (st' := [.ref 0, .int (1 : Int32), .ref 44]) (σ' := σ) (by decide +kernel) rfl rfl rfl ?_
    refine fhW.callv hΓ mvX12_markMany ml_12_426 (t := 0) (ci := 12) (av := []) (rest := [.int (1 : Int32), .ref 44]) (r := (some (.int (f_X12_markMany σ)))) (σ' := σ) (T_X12_markMany (E := fhEn Γ) (d := fhD Γ - 1) (by omega) σ) (by omega) (by decide +kernel) rfl rfl rfl (Nat.le_of_ble_eq_true rfl) rfl ?_
    show fhW fhYM Γ 67 [(0, .ref 0), (2, .int v2), (3, .int v3)] [.int (f_X12_markMany σ), .int (1 : Int32), .ref 44] σ
    obtain ⟨hg2, h⟩ := fhif h
    refine fhW.blk fhPM fhLL hΓ [(.aload_n 0, 0), (.getfield 147, 0), (.iconst 1, 1), (.iaload, 0), (.imul, 0), (.aload_n 0, 0), (.getfield 7, 0), (.iload_n 3, 0), (.iaload, 0), (.iadd, 0), (.iastore, 0), (.iinc 3 (-1), -1)] (pc' := 85) (lv' := [(3, .int (v3 + (-1 : Int32))), (0, .ref 0), (2, .int v2)]) (st' := []) (σ' := (fhI σ 44 1 (((f_X12_markMany σ) * (σ.1 44 1)) + (σ.1 1 (fhix v3))))) (by decide +kernel) rfl rfl hg2 ?_
    refine fhW.goto hΓ (off := (-32)) (tgt := 53) (by decide +kernel) ?_
    refine fhW.sub (lv' := [(0, .ref 0), (2, .int v2), (3, .int (v3 + (-1 : Int32)))]) [1, 2, 0] rfl ?_
    have e9 := Option.some.inj h
    subst e9
    exact hk
set_option maxRecDepth 100000 in
set_option maxHeartbeats 4000000 in
theorem L_X12_on_E {Γ : fhX} (hΓ : fhOk fhYM 12 cX12_on 4 (some .boolean) Γ) (hd : 2 ≤ fhD Γ)   (σ : fhM) (o : Bool × fhM) (h : f_X12_on σ = some o) (hk : (fun o => fhRet Γ (some (.int (fhb o.1))) o.2) o) : fhW fhYM Γ 0 [(0, .ref 0)] [] σ := by
  unfold f_X12_on at h
  refine fhW.blk fhPM fhLL hΓ [(.aload_n 0, 0), (.getfield 259, 0), (.istore_n 1, 0), (.aload_n 0, 0), (.iconst 0, 0), (.putfield 259, 0), (.aload_n 0, 0), (.iload_n 1, 0)] (pc' := 12) (lv' := [(1, .int (σ.1 0 1)), (0, .ref 0)]) (st' := [.int (σ.1 0 1), .ref 0]) (σ' := (fhI σ 0 1 (0 : Int32))) (by decide +kernel) rfl rfl rfl ?_
  obtain ⟨q1, hb1, h⟩ := Option.bind_eq_some_iff.mp h
  refine fhW.callv hΓ mvX12_isImage ml_12_722 (t := 0) (ci := 12) (av := [.int (σ.1 0 1)]) (rest := []) (r := (some (.int (fhb q1)))) (σ' := (fhI σ 0 1 (0 : Int32))) (T_X12_isImage (E := fhEn Γ) (d := fhD Γ - 1) (by omega) (σ.1 0 1) (fhI σ 0 1 (0 : Int32)) hb1) (by omega) (by decide +kernel) rfl rfl rfl (Nat.le_of_ble_eq_true rfl) rfl ?_
  show fhW fhYM Γ 15 [(1, .int (σ.1 0 1)), (0, .ref 0)] [.int (fhb q1)] (fhI σ 0 1 (0 : Int32))
  refine fhW.b_ne hΓ (tgt := 24) (show fhbk _ _ (.ifCond .ne (9)) _ = true by decide +kernel) (fun hc => ?_) (fun hc => ?_)
  · rw [if_pos hc] at h
    refine fhW.blk fhPM fhLL hΓ [(.iconst 2, 2), (.aload_n 0, 0)] (pc' := 26) (lv' := [(1, .int (σ.1 0 1)), (0, .ref 0)]) (st' := [.ref 0, .int (2 : Int32)]) (σ' := (fhI σ 0 1 (0 : Int32))) (by decide +kernel) rfl rfl rfl ?_
    refine fhW.callv hΓ mvX12_guestMany ml_12_423 (t := 0) (ci := 12) (av := []) (rest := [.int (2 : Int32)]) (r := (some (.int (f_X12_guestMany (fhI σ 0 1 (0 : Int32)))))) (σ' := (fhI σ 0 1 (0 : Int32))) (T_X12_guestMany (E := fhEn Γ) (d := fhD Γ - 1) (by omega) (fhI σ 0 1 (0 : Int32))) (by omega) (by decide +kernel) rfl rfl rfl (Nat.le_of_ble_eq_true rfl) rfl ?_
    show fhW fhYM Γ 29 [(1, .int (σ.1 0 1)), (0, .ref 0)] [.int (f_X12_guestMany (fhI σ 0 1 (0 : Int32))), .int (2 : Int32)] (fhI σ 0 1 (0 : Int32))
    refine fhW.blk fhPM fhLL hΓ [(.iadd, 0), (.istore_n 2, 0)] (pc' := 31) (lv' := [(2, .int ((2 : Int32) + (f_X12_guestMany (fhI σ 0 1 (0 : Int32))))), (1, .int (σ.1 0 1)), (0, .ref 0)]) (st' := []) (σ' := (fhI σ 0 1 (0 : Int32))) (by decide +kernel) rfl rfl rfl ?_
    obtain ⟨w2_1, e2, h⟩ := fhlet_elim h
    rw [← e2]
    refine fhW.blk fhPM fhLL hΓ [(.aload_n 0, 0), (.getfield 147, 0), (.iconst 0, 0), (.aload_n 0, 0), (.iconst 0, 0)] (pc' := 38) (lv' := [(2, .int w2_1), (1, .int (σ.1 0 1)), (0, .ref 0)]) (st' := [.int (0 : Int32), .ref 0, .int (0 : Int32), .ref 44]) (σ' := (fhI σ 0 1 (0 : Int32))) (by decide +kernel) rfl rfl rfl ?_
    obtain ⟨q2, hb2, h⟩ := Option.bind_eq_some_iff.mp h
    refine fhW.callv hΓ mvX12_twoAt ml_12_719 (t := 0) (ci := 12) (av := [.int (0 : Int32)]) (rest := [.int (0 : Int32), .ref 44]) (r := (some (.int q2))) (σ' := (fhI σ 0 1 (0 : Int32))) (T_X12_twoAt (E := fhEn Γ) (d := fhD Γ - 1) (by omega) (0 : Int32) (fhI σ 0 1 (0 : Int32)) hb2) (by omega) (by decide +kernel) rfl rfl rfl (Nat.le_of_ble_eq_true rfl) rfl ?_
    show fhW fhYM Γ 41 [(2, .int w2_1), (1, .int (σ.1 0 1)), (0, .ref 0)] [.int q2, .int (0 : Int32), .ref 44] (fhI σ 0 1 (0 : Int32))
    refine fhW.blk fhPM fhLL hΓ [(.iastore, 0), (.aload_n 0, 0), (.getfield 147, 0), (.iconst 1, 1), (.iconst 0, 0), (.iastore, 0), (.iload_n 2, 0), (.iconst 1, 1), (.isub, 0), (.istore_n 3, 0)] (pc' := 53) (lv' := [(3, .int (w2_1 - (1 : Int32))), (2, .int w2_1), (1, .int (σ.1 0 1)), (0, .ref 0)]) (st' := []) (σ' := (fhI (fhI (fhI σ 0 1 (0 : Int32)) 44 0 q2) 44 1 (0 : Int32))) (by decide +kernel) rfl rfl rfl ?_
    refine fhW.sub (lv' := [(0, .ref 0), (2, .int w2_1), (3, .int (w2_1 - (1 : Int32)))]) [3, 1, 0] rfl ?_
    exact fhlp_ok (W := (fun x => fhW fhYM Γ 53 [(0, .ref 0), (2, .int w2_1), (3, .int x.1)] [] x.2)) (B := (fun o => fhRet Γ (some (.int (fhb o.1))) o.2)) (fun x o h hk => L_X12_on_53 hΓ hd w2_1 x.1 x.2 o h hk) ((w2_1 - (1 : Int32)), (fhI (fhI (fhI σ 0 1 (0 : Int32)) 44 0 q2) 44 1 (0 : Int32))) _ h hk
  · rw [if_neg hc] at h
    refine fhW.blk fhPM fhLL hΓ [(.aload_n 0, 0), (.iconst 5, 5)] (pc' := 20) (lv' := [(1, .int (σ.1 0 1)), (0, .ref 0)]) (st' := [.int (5 : Int32), .ref 0]) (σ' := (fhI σ 0 1 (0 : Int32))) (by decide +kernel) rfl rfl rfl ?_
    obtain ⟨q3, hb3, h⟩ := Option.bind_eq_some_iff.mp h
    refine fhW.callv hΓ mvX12_isRefused ml_12_570 (t := 0) (ci := 12) (av := [.int (5 : Int32)]) (rest := []) (r := (some (.int (fhb q3.1)))) (σ' := q3.2) (T_X12_isRefused (E := fhEn Γ) (d := fhD Γ - 1) (by omega) (5 : Int32) (fhI σ 0 1 (0 : Int32)) hb3) (by omega) (by decide +kernel) rfl rfl rfl (Nat.le_of_ble_eq_true rfl) rfl ?_
    show fhW fhYM Γ 23 [(1, .int (σ.1 0 1)), (0, .ref 0)] [.int (fhb q3.1)] q3.2
    have e9 := Option.some.inj h
    subst e9
    exact fhW.zret (v := q3.1) hΓ (by decide +kernel) hk
set_option maxRecDepth 100000 in
theorem T_X12_on {E : fhE} {d : Nat} (hd : 2 ≤ d)   (σ : fhM) {o : Bool × fhM} (h : f_X12_on σ = some o) : fhC fhYM E d miX12_on [.ref 0] σ (some (.int (fhb o.1))) o.2 := by
  refine fhC.of (y := yX12_on) (cc := cX12_on) (nL := 4) (ret := (some .boolean)) 12 rfl (by decide +kernel) (Nat.le_of_ble_eq_true rfl) ?_
  intro Γ hΓ hR hD hEn
  subst hD; subst hEn
  exact L_X12_on_E hΓ hd   σ _ h hR
