set_option maxRecDepth 100000 in
set_option maxHeartbeats 4000000 in
theorem L_X4_depth_64 {Γ : fhX} (hE : fhEok fhYF (fhEn Γ)) (hΓ : fhOk fhYF 4 cX4_depth 4 (some .int) Γ) (hd : 3 ≤ fhD Γ) (v2 : Int32)  (σ : fhM) (o : (Int32 × fhM) ⊕ (Int32 × fhM)) (h : f_X4_depth_64 v2 σ = some o) (hk : (fhK (fun x => fhW fhYF Γ 64 [(0, .ref 56), (2, .int x.1)] [] x.2) (fun o => fhRet Γ (some (.int o.1)) o.2)) o) : fhW fhYF Γ 64 [(0, .ref 56), (2, .int v2)] [] σ := by
  unfold f_X4_depth_64 at h
  refine fhW.blk fhPF fhLL hΓ [(.iload_n 2, 0), (.bipush 9, 9)] (pc' := 67) (lv' := [(0, .ref 56), (2, .int v2)]) (st' := [.int (9 : Int32), .int v2]) (σ' := σ) (by decide +kernel) rfl rfl rfl ?_
  refine fhW.i_ge hΓ (tgt := 96) (show fhbk _ _ (.if_icmp .ge (29)) _ = true by decide +kernel) (fun hc => ?_) (fun hc => ?_)
  · rw [if_pos hc] at h
    refine fhW.blk fhPF fhLL hΓ [(.bipush 9, 9)] (pc' := 98) (lv' := [(0, .ref 56), (2, .int v2)]) (st' := [.int (9 : Int32)]) (σ' := σ) (by decide +kernel) rfl rfl rfl ?_
    have e9 := Option.some.inj h
    subst e9
    exact fhW.iret hΓ (by decide +kernel) hk
  · rw [if_neg hc] at h
    refine fhW.blk fhPF fhLL hΓ [(.aload_n 0, 0), (.getfield 23, 0), (.aload_n 0, 0), (.getfield 69, 0)] (pc' := 78) (lv' := [(0, .ref 56), (2, .int v2)]) (st' := [.int (σ.1 56 9), .ref 64]) (σ' := σ) (by decide +kernel) rfl rfl rfl ?_
    refine fhW.callv hΓ mvX2_get ml_4_55 (t := 64) (ci := 2) (av := [.int (σ.1 56 9)]) (rest := []) (r := (some (.int (fcG σ 64 (σ.1 56 9))))) (σ' := σ) (T_X2_get (E := fhEn Γ) (d := fhD Γ - 1) hE (by omega) 64 (σ.1 56 9) rfl σ) (by omega) (by decide +kernel) rfl rfl rfl (Nat.le_of_ble_eq_true rfl) rfl ?_
    show fhW fhYF Γ 81 [(0, .ref 56), (2, .int v2)] [.int (fcG σ 64 (σ.1 56 9))] σ
    refine fhW.z_ne hΓ (tgt := 86) (show fhbk _ _ (.ifCond .ne (5)) _ = true by decide +kernel) (fun hc => ?_) (fun hc => ?_)
    · rw [if_neg hc] at h
      refine fhW.blk fhPF fhLL hΓ [(.aload_n 0, 0)] (pc' := 87) (lv' := [(0, .ref 56), (2, .int v2)]) (st' := [.ref 56]) (σ' := σ) (by decide +kernel) rfl rfl rfl ?_
      obtain ⟨q1, hb1, h⟩ := Option.bind_eq_some_iff.mp h
      refine fhW.callv hΓ mvX4_deepen ml_4_100 (t := 56) (ci := 4) (av := []) (rest := []) (r := none) (σ' := q1) (T_X4_deepen (E := fhEn Γ) (d := fhD Γ - 1) hE (by omega) σ hb1) (by omega) (by decide +kernel) rfl rfl rfl (Nat.le_of_ble_eq_true rfl) rfl ?_
      show fhW fhYF Γ 90 [(0, .ref 56), (2, .int v2)] [] q1
      refine fhW.blk fhPF fhLL hΓ [(.iinc 2 1, 1)] (pc' := 93) (lv' := [(2, .int (v2 + (1 : Int32))), (0, .ref 56)]) (st' := []) (σ' := q1) (by decide +kernel) rfl rfl rfl ?_
      refine fhW.goto hΓ (off := (-29)) (tgt := 64) (by decide +kernel) ?_
      refine fhW.sub (lv' := [(0, .ref 56), (2, .int (v2 + (1 : Int32)))]) [1, 0] rfl ?_
      have e9 := Option.some.inj h
      subst e9
      exact hk
    · rw [if_pos hc] at h
      refine fhW.blk fhPF fhLL hΓ [(.iload_n 2, 0)] (pc' := 85) (lv' := [(0, .ref 56), (2, .int v2)]) (st' := [.int v2]) (σ' := σ) (by decide +kernel) rfl rfl rfl ?_
      have e9 := Option.some.inj h
      subst e9
      exact fhW.iret hΓ (by decide +kernel) hk
set_option maxRecDepth 100000 in
set_option maxHeartbeats 4000000 in
theorem L_X4_depth_53 {Γ : fhX} (hE : fhEok fhYF (fhEn Γ)) (hΓ : fhOk fhYF 4 cX4_depth 4 (some .int) Γ) (hd : 3 ≤ fhD Γ) (v1 : Int32) (v2 : Int32) (s0 : Int32) (s1 : Int32)  (σ : fhM) (o : (Int32 × fhM) ⊕ (Int32 × fhM)) (h : f_X4_depth_53 v1 v2 s0 s1 σ = some o) (hk : (fhK (fun x => fhW fhYF Γ 14 [(0, .ref 56), (1, .int v1), (2, .int x.1)] [] x.2) (fun o => fhRet Γ (some (.int o.1)) o.2)) o) : fhW fhYF Γ 53 [(0, .ref 56), (1, .int v1), (2, .int v2)] [.int s0, .int s1, .ref 64] σ := by
  unfold f_X4_depth_53 at h
  refine fhW.callv hΓ mvX2_put ml_4_59 (t := 64) (ci := 2) (av := [.int s1, .int s0]) (rest := []) (r := none) (σ' := (fcP σ 64 s1 s0)) (T_X2_put (E := fhEn Γ) (d := fhD Γ - 1) hE (by omega) 64 s1 s0 rfl σ) (by omega) (by decide +kernel) rfl rfl rfl (Nat.le_of_ble_eq_true rfl) rfl ?_
  show fhW fhYF Γ 56 [(0, .ref 56), (1, .int v1), (2, .int v2)] [] (fcP σ 64 s1 s0)
  refine fhW.blk fhPF fhLL hΓ [(.iinc 2 1, 1)] (pc' := 59) (lv' := [(2, .int (v2 + (1 : Int32))), (0, .ref 56), (1, .int v1)]) (st' := []) (σ' := (fcP σ 64 s1 s0)) (by decide +kernel) rfl rfl rfl ?_
  refine fhW.goto hΓ (off := (-45)) (tgt := 14) (by decide +kernel) ?_
  refine fhW.sub (lv' := [(0, .ref 56), (1, .int v1), (2, .int (v2 + (1 : Int32)))]) [1, 2, 0] rfl ?_
  have e9 := Option.some.inj h
  subst e9
  exact hk
set_option maxRecDepth 100000 in
set_option maxHeartbeats 4000000 in
theorem L_X4_depth_14 {Γ : fhX} (hE : fhEok fhYF (fhEn Γ)) (hΓ : fhOk fhYF 4 cX4_depth 4 (some .int) Γ) (hd : 3 ≤ fhD Γ) (v1 : Int32) (v2 : Int32)  (σ : fhM) (o : (Int32 × fhM) ⊕ (Int32 × fhM)) (h : f_X4_depth_14 v1 v2 σ = some o) (hk : (fhK (fun x => fhW fhYF Γ 14 [(0, .ref 56), (1, .int v1), (2, .int x.1)] [] x.2) (fun o => fhRet Γ (some (.int o.1)) o.2)) o) : fhW fhYF Γ 14 [(0, .ref 56), (1, .int v1), (2, .int v2)] [] σ := by
  unfold f_X4_depth_14 at h
  refine fhW.blk fhPF fhLL hΓ [(.iload_n 2, 0), (.aload_n 0, 0), (.getfield 63, 0)] (pc' := 19) (lv' := [(0, .ref 56), (1, .int v1), (2, .int v2)]) (st' := [.int (σ.1 56 8), .int v2]) (σ' := σ) (by decide +kernel) rfl rfl rfl ?_
  refine fhW.i_ge hΓ (tgt := 62) (show fhbk _ _ (.if_icmp .ge (43)) _ = true by decide +kernel) (fun hc => ?_) (fun hc => ?_)
  · rw [if_pos hc] at h
    refine fhW.blk fhPF fhLL hΓ [(.iconst 0, 0), (.istore_n 2, 0)] (pc' := 64) (lv' := [(2, .int (0 : Int32)), (0, .ref 56), (1, .int v1)]) (st' := []) (σ' := σ) (by decide +kernel) rfl rfl rfl ?_
    refine fhW.sub (lv' := [(0, .ref 56), (2, .int (0 : Int32))]) [1, 0] rfl ?_
    obtain ⟨z1, hz, e1⟩ := Option.map_eq_some_iff.mp h
    clear h
    subst e1
    have h := hz
    have hk : (fun o => fhRet Γ (some (.int o.1)) o.2) z1 := hk
    exact fhlp_ok (W := (fun x => fhW fhYF Γ 64 [(0, .ref 56), (2, .int x.1)] [] x.2)) (B := (fun o => fhRet Γ (some (.int o.1)) o.2)) (fun x o h hk => L_X4_depth_64 hE hΓ hd x.1 x.2 o h hk) ((0 : Int32), σ) _ h hk
  · rw [if_neg hc] at h
    refine fhW.blk fhPF fhLL hΓ [(.aload_n 0, 0), (.getfield 36, 0), (.iload_n 2, 0)] (pc' := 27) (lv' := [(0, .ref 56), (1, .int v1), (2, .int v2)]) (st' := [.int v2, .ref 72]) (σ' := σ) (by decide +kernel) rfl rfl rfl ?_
    refine fhW.callv hΓ mvX2_get ml_4_55 (t := 72) (ci := 2) (av := [.int v2]) (rest := []) (r := (some (.int (fcG σ 72 v2)))) (σ' := σ) (T_X2_get (E := fhEn Γ) (d := fhD Γ - 1) hE (by omega) 72 v2 rfl σ) (by omega) (by decide +kernel) rfl rfl rfl (Nat.le_of_ble_eq_true rfl) rfl ?_
    show fhW fhYF Γ 30 [(0, .ref 56), (1, .int v1), (2, .int v2)] [.int (fcG σ 72 v2)] σ
    refine fhW.blk fhPF fhLL hΓ [(.istore_n 3, 0), (.aload_n 0, 0), (.getfield 23, 0), (.iload_n 3, 0), (.aload_n 0, 0), (.getfield 39, 0), (.iload_n 3, 0)] (pc' := 41) (lv' := [(3, .int (fcG σ 72 v2)), (0, .ref 56), (1, .int v1), (2, .int v2)]) (st' := [.int (fcG σ 72 v2), .ref 74, .int (fcG σ 72 v2), .ref 64]) (σ' := σ) (by decide +kernel) rfl rfl rfl ?_
    refine fhW.callv hΓ mvX2_get ml_4_55 (t := 74) (ci := 2) (av := [.int (fcG σ 72 v2)]) (rest := [.int (fcG σ 72 v2), .ref 64]) (r := (some (.int (fcG σ 74 (fcG σ 72 v2))))) (σ' := σ) (T_X2_get (E := fhEn Γ) (d := fhD Γ - 1) hE (by omega) 74 (fcG σ 72 v2) rfl σ) (by omega) (by decide +kernel) rfl rfl rfl (Nat.le_of_ble_eq_true rfl) rfl ?_
    show fhW fhYF Γ 44 [(3, .int (fcG σ 72 v2)), (0, .ref 56), (1, .int v1), (2, .int v2)] [.int (fcG σ 74 (fcG σ 72 v2)), .int (fcG σ 72 v2), .ref 64] σ
    refine fhW.blk fhPF fhLL hΓ [(.iload_n 1, 0)] (pc' := 45) (lv' := [(3, .int (fcG σ 72 v2)), (0, .ref 56), (1, .int v1), (2, .int v2)]) (st' := [.int v1, .int (fcG σ 74 (fcG σ 72 v2)), .int (fcG σ 72 v2), .ref 64]) (σ' := σ) (by decide +kernel) rfl rfl rfl ?_
    refine fhW.i_ne hΓ (tgt := 52) (show fhbk _ _ (.if_icmp .ne (7)) _ = true by decide +kernel) (fun hc => ?_) (fun hc => ?_)
    · simp only [if_neg hc] at h
      refine fhW.blk fhPF fhLL hΓ [(.iconst 0, 0)] (pc' := 53) (lv' := [(3, .int (fcG σ 72 v2)), (0, .ref 56), (1, .int v1), (2, .int v2)]) (st' := [.int (0 : Int32), .int (fcG σ 72 v2), .ref 64]) (σ' := σ) (by decide +kernel) rfl rfl rfl ?_
      refine fhW.sub (lv' := [(0, .ref 56), (1, .int v1), (2, .int v2)]) [1, 2, 3] rfl ?_
      exact L_X4_depth_53 hE hΓ hd v1 v2 (0 : Int32) (fcG σ 72 v2) σ _ h hk
    · simp only [if_pos hc] at h
      refine fhW.blk fhPF fhLL hΓ [(.iconst 1, 1)] (pc' := 49) (lv' := [(3, .int (fcG σ 72 v2)), (0, .ref 56), (1, .int v1), (2, .int v2)]) (st' := [.int (1 : Int32), .int (fcG σ 72 v2), .ref 64]) (σ' := σ) (by decide +kernel) rfl rfl rfl ?_
      refine fhW.goto hΓ (off := 4) (tgt := 53) (by decide +kernel) ?_
      refine fhW.sub (lv' := [(0, .ref 56), (1, .int v1), (2, .int v2)]) [1, 2, 3] rfl ?_
      exact L_X4_depth_53 hE hΓ hd v1 v2 (1 : Int32) (fcG σ 72 v2) σ _ h hk
set_option maxRecDepth 100000 in
set_option maxHeartbeats 4000000 in
theorem L_X4_depth_E {Γ : fhX} (hE : fhEok fhYF (fhEn Γ)) (hΓ : fhOk fhYF 4 cX4_depth 4 (some .int) Γ) (hd : 3 ≤ fhD Γ)   (σ : fhM) (o : Int32 × fhM) (h : f_X4_depth σ = some o) (hk : (fun o => fhRet Γ (some (.int o.1)) o.2) o) : fhW fhYF Γ 0 [(0, .ref 56)] [] σ := by
  unfold f_X4_depth at h
  refine fhW.blk fhPF fhLL hΓ [(.iconst 1, 1), (.aload_n 0, 0), (.getfield 42, 0), (.getfield 97, 0), (.ishl, 0), (.iconst 1, 1), (.isub, 0), (.istore_n 1, 0)] (pc' := 12) (lv' := [(1, .int (((1 : Int32) <<< ((σ.1 39 9) &&& 31)) - (1 : Int32))), (0, .ref 56)]) (st' := []) (σ' := σ) (by decide +kernel) rfl rfl rfl ?_
  obtain ⟨w1_1, e2, h⟩ := fhlet_elim h
  rw [← e2]
  refine fhW.blk fhPF fhLL hΓ [(.iconst 0, 0), (.istore_n 2, 0)] (pc' := 14) (lv' := [(2, .int (0 : Int32)), (1, .int w1_1), (0, .ref 56)]) (st' := []) (σ' := σ) (by decide +kernel) rfl rfl rfl ?_
  refine fhW.sub (lv' := [(0, .ref 56), (1, .int w1_1), (2, .int (0 : Int32))]) [2, 1, 0] rfl ?_
  exact fhlp_ok (W := (fun x => fhW fhYF Γ 14 [(0, .ref 56), (1, .int w1_1), (2, .int x.1)] [] x.2)) (B := (fun o => fhRet Γ (some (.int o.1)) o.2)) (fun x o h hk => L_X4_depth_14 hE hΓ hd w1_1 x.1 x.2 o h hk) ((0 : Int32), σ) _ h hk
set_option maxRecDepth 100000 in
theorem T_X4_depth {E : fhE} {d : Nat} (hE : fhEok fhYF E) (hd : 3 ≤ d)   (σ : fhM) {o : Int32 × fhM} (h : f_X4_depth σ = some o) : fhC fhYF E d miX4_depth [.ref 56] σ (some (.int o.1)) o.2 := by
  refine fhC.of (y := yX4_depth) (cc := cX4_depth) (nL := 4) (ret := (some .int)) 4 rfl (by decide +kernel) (Nat.le_of_ble_eq_true rfl) ?_
  intro Γ hΓ hR hD hEn
  subst hD; subst hEn
  exact L_X4_depth_E hE hΓ hd   σ _ h hR
set_option maxRecDepth 100000 in
set_option maxHeartbeats 4000000 in
theorem L_X11_deep_E {Γ : fhX} (hE : fhEok fhYF (fhEn Γ)) (hΓ : fhOk fhYF 11 cX11_deep 1 (some .int) Γ) (hd : 4 ≤ fhD Γ)   (σ : fhM) (o : Int32 × fhM) (h : f_X11_deep σ = some o) (hk : (fun o => fhRet Γ (some (.int o.1)) o.2) o) : fhW fhYF Γ 0 [(0, .ref 0)] [] σ := by
  unfold f_X11_deep at h
  refine fhW.blk fhPF fhLL hΓ [(.aload_n 0, 0), (.getfield 145, 0)] (pc' := 4) (lv' := [(0, .ref 0)]) (st' := [.int (σ.1 0 8)]) (σ' := σ) (by decide +kernel) rfl rfl rfl ?_
  refine fhW.z_eq hΓ (tgt := 17) (show fhbk _ _ (.ifCond .eq (13)) _ = true by decide +kernel) (fun hc => ?_) (fun hc => ?_)
  · rw [if_pos hc] at h
    refine fhW.blk fhPF fhLL hΓ [(.iconst (-1), -1)] (pc' := 18) (lv' := [(0, .ref 0)]) (st' := [.int (-1 : Int32)]) (σ' := σ) (by decide +kernel) rfl rfl rfl ?_
    have e9 := Option.some.inj h
    subst e9
    exact fhW.iret hΓ (by decide +kernel) hk
  · rw [if_neg hc] at h
    refine fhW.blk fhPF fhLL hΓ [(.aload_n 0, 0), (.getfield 72, 0)] (pc' := 11) (lv' := [(0, .ref 0)]) (st' := [.ref 56]) (σ' := σ) (by decide +kernel) rfl rfl rfl ?_
    obtain ⟨q1, hb1, h⟩ := Option.bind_eq_some_iff.mp h
    refine fhW.callv hΓ mvX4_depth ml_11_272 (t := 56) (ci := 4) (av := []) (rest := []) (r := (some (.int q1.1))) (σ' := q1.2) (T_X4_depth (E := fhEn Γ) (d := fhD Γ - 1) hE (by omega) σ hb1) (by omega) (by decide +kernel) rfl rfl rfl (Nat.le_of_ble_eq_true rfl) rfl ?_
    show fhW fhYF Γ 14 [(0, .ref 0)] [.int q1.1] q1.2
    refine fhW.goto hΓ (off := 4) (tgt := 18) (by decide +kernel) ?_
    have e9 := Option.some.inj h
    subst e9
    exact fhW.iret hΓ (by decide +kernel) hk
set_option maxRecDepth 100000 in
theorem T_X11_deep {E : fhE} {d : Nat} (hE : fhEok fhYF E) (hd : 4 ≤ d)   (σ : fhM) {o : Int32 × fhM} (h : f_X11_deep σ = some o) : fhC fhYF E d miX11_deep [.ref 0] σ (some (.int o.1)) o.2 := by
  refine fhC.of (y := yX11_deep) (cc := cX11_deep) (nL := 1) (ret := (some .int)) 11 rfl (by decide +kernel) (Nat.le_of_ble_eq_true rfl) ?_
  intro Γ hΓ hR hD hEn
  subst hD; subst hEn
  exact L_X11_deep_E hE hΓ hd   σ _ h hR
set_option maxRecDepth 100000 in
set_option maxHeartbeats 4000000 in
theorem L_X0_start_42 {Γ : fhX} (hE : fhEok fhYF (fhEn Γ)) (hΓ : fhOk fhYF 0 cX0_start 3 none Γ) (hd : 1 ≤ fhD Γ) (v2 : Int32)  (σ : fhM) (o : (Int32 × fhM) ⊕ (fhM)) (h : f_X0_start_42 v2 σ = some o) (hk : (fhK (fun x => fhW fhYF Γ 42 [(0, .ref 57), (2, .int x.1)] [] x.2) (fun o => fhRet Γ none o)) o) : fhW fhYF Γ 42 [(0, .ref 57), (2, .int v2)] [] σ := by
  unfold f_X0_start_42 at h
  refine fhW.blk fhPF fhLL hΓ [(.iload_n 2, 0), (.iconst 5, 5)] (pc' := 44) (lv' := [(0, .ref 57), (2, .int v2)]) (st' := [.int (5 : Int32), .int v2]) (σ' := σ) (by decide +kernel) rfl rfl rfl ?_
  refine fhW.i_ge hΓ (tgt := 63) (show fhbk _ _ (.if_icmp .ge (19)) _ = true by decide +kernel) (fun hc => ?_) (fun hc => ?_)
  · rw [if_pos hc] at h
    refine fhW.blk fhPF fhLL hΓ [(.aload_n 0, 0), (.bipush 99, 99), (.putfield 34, 0)] (pc' := 69) (lv' := [(0, .ref 57), (2, .int v2)]) (st' := []) (σ' := (fhI σ 57 5 (99 : Int32))) (by decide +kernel) rfl rfl rfl ?_
    have e9 := Option.some.inj h
    subst e9
    exact fhW.vret hΓ (by decide +kernel) hk
  · rw [if_neg hc] at h
    refine fhW.blk fhPF fhLL hΓ [(.aload_n 0, 0), (.getfield 23, 0), (.iload_n 2, 0), (.bipush 99, 99)] (pc' := 54) (lv' := [(0, .ref 57), (2, .int v2)]) (st' := [.int (99 : Int32), .int v2, .ref 62]) (σ' := σ) (by decide +kernel) rfl rfl rfl ?_
    refine fhW.callv hΓ mvX2_put ml_0_69 (t := 62) (ci := 2) (av := [.int v2, .int (99 : Int32)]) (rest := []) (r := none) (σ' := (fcP σ 62 v2 (99 : Int32))) (T_X2_put (E := fhEn Γ) (d := fhD Γ - 1) hE (by omega) 62 v2 (99 : Int32) rfl σ) (by omega) (by decide +kernel) rfl rfl rfl (Nat.le_of_ble_eq_true rfl) rfl ?_
    show fhW fhYF Γ 57 [(0, .ref 57), (2, .int v2)] [] (fcP σ 62 v2 (99 : Int32))
    refine fhW.blk fhPF fhLL hΓ [(.iinc 2 1, 1)] (pc' := 60) (lv' := [(2, .int (v2 + (1 : Int32))), (0, .ref 57)]) (st' := []) (σ' := (fcP σ 62 v2 (99 : Int32))) (by decide +kernel) rfl rfl rfl ?_
    refine fhW.goto hΓ (off := (-18)) (tgt := 42) (by decide +kernel) ?_
    refine fhW.sub (lv' := [(0, .ref 57), (2, .int (v2 + (1 : Int32)))]) [1, 0] rfl ?_
    have e9 := Option.some.inj h
    subst e9
    exact hk
set_option maxRecDepth 100000 in
set_option maxHeartbeats 4000000 in
theorem L_X0_start_10 {Γ : fhX} (hE : fhEok fhYF (fhEn Γ)) (hΓ : fhOk fhYF 0 cX0_start 3 none Γ) (hd : 1 ≤ fhD Γ) (v2 : Int32)  (σ : fhM) (o : (Int32 × fhM) ⊕ (fhM)) (h : f_X0_start_10 v2 σ = some o) (hk : (fhK (fun x => fhW fhYF Γ 10 [(0, .ref 57), (1, .ref 56), (2, .int x.1)] [] x.2) (fun o => fhRet Γ none o)) o) : fhW fhYF Γ 10 [(0, .ref 57), (1, .ref 56), (2, .int v2)] [] σ := by
  unfold f_X0_start_10 at h
  refine fhW.blk fhPF fhLL hΓ [(.iload_n 2, 0), (.aload_n 0, 0), (.getfield 44, 0)] (pc' := 15) (lv' := [(0, .ref 57), (1, .ref 56), (2, .int v2)]) (st' := [.int (σ.1 57 2), .int v2]) (σ' := σ) (by decide +kernel) rfl rfl rfl ?_
  refine fhW.i_ge hΓ (tgt := 40) (show fhbk _ _ (.if_icmp .ge (25)) _ = true by decide +kernel) (fun hc => ?_) (fun hc => ?_)
  · rw [if_pos hc] at h
    refine fhW.blk fhPF fhLL hΓ [(.iconst 0, 0), (.istore_n 2, 0)] (pc' := 42) (lv' := [(2, .int (0 : Int32)), (0, .ref 57), (1, .ref 56)]) (st' := []) (σ' := σ) (by decide +kernel) rfl rfl rfl ?_
    refine fhW.sub (lv' := [(0, .ref 57), (2, .int (0 : Int32))]) [1, 0] rfl ?_
    obtain ⟨z1, hz, e1⟩ := Option.map_eq_some_iff.mp h
    clear h
    subst e1
    have h := hz
    have hk : (fun o => fhRet Γ none o) z1 := hk
    exact fhlp_ok (W := (fun x => fhW fhYF Γ 42 [(0, .ref 57), (2, .int x.1)] [] x.2)) (B := (fun o => fhRet Γ none o)) (fun x o h hk => L_X0_start_42 hE hΓ hd x.1 x.2 o h hk) ((0 : Int32), σ) _ h hk
  · rw [if_neg hc] at h
    refine fhW.blk fhPF fhLL hΓ [(.aload_n 0, 0), (.getfield 14, 0), (.iload_n 2, 0), (.aload_n 1, 0), (.getfield 80, 0), (.iload_n 2, 0)] (pc' := 28) (lv' := [(0, .ref 57), (1, .ref 56), (2, .int v2)]) (st' := [.int v2, .ref 72, .int v2, .ref 58]) (σ' := σ) (by decide +kernel) rfl rfl rfl ?_
    refine fhW.callv hΓ mvX2_get ml_0_56 (t := 72) (ci := 2) (av := [.int v2]) (rest := [.int v2, .ref 58]) (r := (some (.int (fcG σ 72 v2)))) (σ' := σ) (T_X2_get (E := fhEn Γ) (d := fhD Γ - 1) hE (by omega) 72 v2 rfl σ) (by omega) (by decide +kernel) rfl rfl rfl (Nat.le_of_ble_eq_true rfl) rfl ?_
    show fhW fhYF Γ 31 [(0, .ref 57), (1, .ref 56), (2, .int v2)] [.int (fcG σ 72 v2), .int v2, .ref 58] σ
    refine fhW.callv hΓ mvX2_put ml_0_69 (t := 58) (ci := 2) (av := [.int v2, .int (fcG σ 72 v2)]) (rest := []) (r := none) (σ' := (fcP σ 58 v2 (fcG σ 72 v2))) (T_X2_put (E := fhEn Γ) (d := fhD Γ - 1) hE (by omega) 58 v2 (fcG σ 72 v2) rfl σ) (by omega) (by decide +kernel) rfl rfl rfl (Nat.le_of_ble_eq_true rfl) rfl ?_
    show fhW fhYF Γ 34 [(0, .ref 57), (1, .ref 56), (2, .int v2)] [] (fcP σ 58 v2 (fcG σ 72 v2))
    refine fhW.blk fhPF fhLL hΓ [(.iinc 2 1, 1)] (pc' := 37) (lv' := [(2, .int (v2 + (1 : Int32))), (0, .ref 57), (1, .ref 56)]) (st' := []) (σ' := (fcP σ 58 v2 (fcG σ 72 v2))) (by decide +kernel) rfl rfl rfl ?_
    refine fhW.goto hΓ (off := (-27)) (tgt := 10) (by decide +kernel) ?_
    refine fhW.sub (lv' := [(0, .ref 57), (1, .ref 56), (2, .int (v2 + (1 : Int32)))]) [1, 2, 0] rfl ?_
    have e9 := Option.some.inj h
    subst e9
    exact hk
set_option maxRecDepth 100000 in
set_option maxHeartbeats 4000000 in
theorem L_X0_start_E {Γ : fhX} (hE : fhEok fhYF (fhEn Γ)) (hΓ : fhOk fhYF 0 cX0_start 3 none Γ) (hd : 1 ≤ fhD Γ)   (σ : fhM) (o : fhM) (h : f_X0_start σ = some o) (hk : (fun o => fhRet Γ none o) o) : fhW fhYF Γ 0 [(0, .ref 57), (1, .ref 56)] [] σ := by
  unfold f_X0_start at h
  refine fhW.blk fhPF fhLL hΓ [(.aload_n 0, 0), (.aload_n 1, 0), (.getfield 77, 0), (.putfield 44, 0), (.iconst 0, 0), (.istore_n 2, 0)] (pc' := 10) (lv' := [(2, .int (0 : Int32)), (0, .ref 57), (1, .ref 56)]) (st' := []) (σ' := (fhI σ 57 2 (σ.1 56 8))) (by decide +kernel) rfl rfl rfl ?_
  refine fhW.sub (lv' := [(0, .ref 57), (1, .ref 56), (2, .int (0 : Int32))]) [1, 2, 0] rfl ?_
  exact fhlp_ok (W := (fun x => fhW fhYF Γ 10 [(0, .ref 57), (1, .ref 56), (2, .int x.1)] [] x.2)) (B := (fun o => fhRet Γ none o)) (fun x o h hk => L_X0_start_10 hE hΓ hd x.1 x.2 o h hk) ((0 : Int32), (fhI σ 57 2 (σ.1 56 8))) _ h hk
set_option maxRecDepth 100000 in
theorem T_X0_start {E : fhE} {d : Nat} (hE : fhEok fhYF E) (hd : 1 ≤ d)   (σ : fhM) {o : fhM} (h : f_X0_start σ = some o) : fhC fhYF E d miX0_start [.ref 57, .ref 56] σ none o := by
  refine fhC.of (y := yX0_start) (cc := cX0_start) (nL := 3) (ret := none) 0 rfl (by decide +kernel) (Nat.le_of_ble_eq_true rfl) ?_
  intro Γ hΓ hR hD hEn
  subst hD; subst hEn
  exact L_X0_start_E hE hΓ hd   σ _ h hR
set_option maxRecDepth 100000 in
set_option maxHeartbeats 4000000 in
theorem L_X0_shrinkTo_67 {Γ : fhX} (hE : fhEok fhYF (fhEn Γ)) (hΓ : fhOk fhYF 0 cX0_shrinkTo 5 (some .boolean) Γ) (hd : 1 ≤ fhD Γ) (v2 : Int32) (s0 : Bool)  (σ : fhM) (o : Bool × fhM) (h : f_X0_shrinkTo_67 v2 s0 σ = some o) (hk : (fun o => fhRet Γ (some (.int (fhb o.1))) o.2) o) : fhW fhYF Γ 67 [(0, .ref 57), (2, .int v2)] [.int (fhb s0)] σ := by
  unfold f_X0_shrinkTo_67 at h
  refine fhW.blk fhPF fhLL hΓ [(.istore_n 3, 0), (.aload_n 0, 0), (.iload_n 2, 0), (.putfield 44, 0), (.iload_n 3, 0)] (pc' := 74) (lv' := [(3, .int (fhb s0)), (0, .ref 57), (2, .int v2)]) (st' := [.int (fhb s0)]) (σ' := (fhI σ 57 2 v2)) (by decide +kernel) rfl rfl rfl ?_
  have e9 := Option.some.inj h
  subst e9
  exact fhW.zret (v := s0) hΓ (by decide +kernel) hk
set_option maxRecDepth 100000 in
set_option maxHeartbeats 4000000 in
theorem L_X0_shrinkTo_48 {Γ : fhX} (hE : fhEok fhYF (fhEn Γ)) (hΓ : fhOk fhYF 0 cX0_shrinkTo 5 (some .boolean) Γ) (hd : 1 ≤ fhD Γ) (v1 : Int32) (v2 : Int32) (v3 : Int32)  (σ : fhM) (o : (Int32 × Int32 × fhM) ⊕ (Bool × fhM)) (h : f_X0_shrinkTo_48 v1 v2 v3 σ = some o) (hk : (fhK (fun x => fhW fhYF Γ 4 [(0, .ref 57), (1, .int v1), (2, .int x.1), (3, .int x.2.1)] [] x.2.2) (fun o => fhRet Γ (some (.int (fhb o.1))) o.2)) o) : fhW fhYF Γ 48 [(0, .ref 57), (1, .int v1), (2, .int v2), (3, .int v3)] [] σ := by
  unfold f_X0_shrinkTo_48 at h
  refine fhW.blk fhPF fhLL hΓ [(.iinc 3 1, 1)] (pc' := 51) (lv' := [(3, .int (v3 + (1 : Int32))), (0, .ref 57), (1, .int v1), (2, .int v2)]) (st' := []) (σ' := σ) (by decide +kernel) rfl rfl rfl ?_
  refine fhW.goto hΓ (off := (-47)) (tgt := 4) (by decide +kernel) ?_
  refine fhW.sub (lv' := [(0, .ref 57), (1, .int v1), (2, .int v2), (3, .int (v3 + (1 : Int32)))]) [1, 2, 3, 0] rfl ?_
  have e9 := Option.some.inj h
  subst e9
  exact hk
set_option maxRecDepth 100000 in
set_option maxHeartbeats 4000000 in
theorem L_X0_shrinkTo_4 {Γ : fhX} (hE : fhEok fhYF (fhEn Γ)) (hΓ : fhOk fhYF 0 cX0_shrinkTo 5 (some .boolean) Γ) (hd : 1 ≤ fhD Γ) (v1 : Int32) (v2 : Int32) (v3 : Int32)  (σ : fhM) (o : (Int32 × Int32 × fhM) ⊕ (Bool × fhM)) (h : f_X0_shrinkTo_4 v1 v2 v3 σ = some o) (hk : (fhK (fun x => fhW fhYF Γ 4 [(0, .ref 57), (1, .int v1), (2, .int x.1), (3, .int x.2.1)] [] x.2.2) (fun o => fhRet Γ (some (.int (fhb o.1))) o.2)) o) : fhW fhYF Γ 4 [(0, .ref 57), (1, .int v1), (2, .int v2), (3, .int v3)] [] σ := by
  unfold f_X0_shrinkTo_4 at h
  refine fhW.blk fhPF fhLL hΓ [(.iload_n 3, 0), (.aload_n 0, 0), (.getfield 44, 0)] (pc' := 9) (lv' := [(0, .ref 57), (1, .int v1), (2, .int v2), (3, .int v3)]) (st' := [.int (σ.1 57 2), .int v3]) (σ' := σ) (by decide +kernel) rfl rfl rfl ?_
  refine fhW.i_ge hΓ (tgt := 54) (show fhbk _ _ (.if_icmp .ge (45)) _ = true by decide +kernel) (fun hc => ?_) (fun hc => ?_)
  · rw [if_pos hc] at h
    refine fhW.blk fhPF fhLL hΓ [(.iload_n 2, 0), (.aload_n 0, 0), (.getfield 44, 0)] (pc' := 59) (lv' := [(0, .ref 57), (1, .int v1), (2, .int v2), (3, .int v3)]) (st' := [.int (σ.1 57 2), .int v2]) (σ' := σ) (by decide +kernel) rfl rfl rfl ?_
    refine fhW.i_ge hΓ (tgt := 66) (show fhbk _ _ (.if_icmp .ge (7)) _ = true by decide +kernel) (fun hc => ?_) (fun hc => ?_)
    · simp only [if_pos hc] at h
      refine fhW.blk fhPF fhLL hΓ [(.iconst 0, 0)] (pc' := 67) (lv' := [(0, .ref 57), (1, .int v1), (2, .int v2), (3, .int v3)]) (st' := [.int (0 : Int32)]) (σ' := σ) (by decide +kernel) rfl rfl rfl ?_
      refine fhW.sub (lv' := [(0, .ref 57), (2, .int v2)]) [0, 2] rfl ?_
      obtain ⟨z1, hz, e1⟩ := Option.map_eq_some_iff.mp h
      clear h
      subst e1
      have h := hz
      have hk : (fun o => fhRet Γ (some (.int (fhb o.1))) o.2) z1 := hk
      exact L_X0_shrinkTo_67 hE hΓ hd v2 false σ _ h hk
    · simp only [if_neg hc] at h
      refine fhW.blk fhPF fhLL hΓ [(.iconst 1, 1)] (pc' := 63) (lv' := [(0, .ref 57), (1, .int v1), (2, .int v2), (3, .int v3)]) (st' := [.int (1 : Int32)]) (σ' := σ) (by decide +kernel) rfl rfl rfl ?_
      refine fhW.goto hΓ (off := 4) (tgt := 67) (by decide +kernel) ?_
      refine fhW.sub (lv' := [(0, .ref 57), (2, .int v2)]) [0, 2] rfl ?_
      obtain ⟨z2, hz, e2⟩ := Option.map_eq_some_iff.mp h
      clear h
      subst e2
      have h := hz
      have hk : (fun o => fhRet Γ (some (.int (fhb o.1))) o.2) z2 := hk
      exact L_X0_shrinkTo_67 hE hΓ hd v2 true σ _ h hk
  · rw [if_neg hc] at h
    refine fhW.blk fhPF fhLL hΓ [(.aload_n 0, 0), (.getfield 14, 0), (.iload_n 3, 0)] (pc' := 17) (lv' := [(0, .ref 57), (1, .int v1), (2, .int v2), (3, .int v3)]) (st' := [.int v3, .ref 58]) (σ' := σ) (by decide +kernel) rfl rfl rfl ?_
    refine fhW.callv hΓ mvX2_get ml_0_56 (t := 58) (ci := 2) (av := [.int v3]) (rest := []) (r := (some (.int (fcG σ 58 v3)))) (σ' := σ) (T_X2_get (E := fhEn Γ) (d := fhD Γ - 1) hE (by omega) 58 v3 rfl σ) (by omega) (by decide +kernel) rfl rfl rfl (Nat.le_of_ble_eq_true rfl) rfl ?_
    show fhW fhYF Γ 20 [(0, .ref 57), (1, .int v1), (2, .int v2), (3, .int v3)] [.int (fcG σ 58 v3)] σ
    refine fhW.blk fhPF fhLL hΓ [(.istore 4, 0), (.aload_n 0, 0), (.getfield 20, 0), (.iload 4, 0)] (pc' := 28) (lv' := [(4, .int (fcG σ 58 v3)), (0, .ref 57), (1, .int v1), (2, .int v2), (3, .int v3)]) (st' := [.int (fcG σ 58 v3), .ref 60]) (σ' := σ) (by decide +kernel) rfl rfl rfl ?_
    refine fhW.callv hΓ mvX2_get ml_0_56 (t := 60) (ci := 2) (av := [.int (fcG σ 58 v3)]) (rest := []) (r := (some (.int (fcG σ 60 (fcG σ 58 v3))))) (σ' := σ) (T_X2_get (E := fhEn Γ) (d := fhD Γ - 1) hE (by omega) 60 (fcG σ 58 v3) rfl σ) (by omega) (by decide +kernel) rfl rfl rfl (Nat.le_of_ble_eq_true rfl) rfl ?_
    show fhW fhYF Γ 31 [(4, .int (fcG σ 58 v3)), (0, .ref 57), (1, .int v1), (2, .int v2), (3, .int v3)] [.int (fcG σ 60 (fcG σ 58 v3))] σ
    refine fhW.blk fhPF fhLL hΓ [(.iload_n 1, 0)] (pc' := 32) (lv' := [(4, .int (fcG σ 58 v3)), (0, .ref 57), (1, .int v1), (2, .int v2), (3, .int v3)]) (st' := [.int v1, .int (fcG σ 60 (fcG σ 58 v3))]) (σ' := σ) (by decide +kernel) rfl rfl rfl ?_
    refine fhW.i_ne hΓ (tgt := 48) (show fhbk _ _ (.if_icmp .ne (16)) _ = true by decide +kernel) (fun hc => ?_) (fun hc => ?_)
    · rw [if_neg hc] at h
      refine fhW.sub (lv' := [(0, .ref 57), (1, .int v1), (2, .int v2), (3, .int v3)]) [1, 2, 3, 4] rfl ?_
      exact L_X0_shrinkTo_48 hE hΓ hd v1 v2 v3 σ _ h hk
    · rw [if_pos hc] at h
      refine fhW.blk fhPF fhLL hΓ [(.aload_n 0, 0), (.getfield 14, 0), (.iload_n 2, 0), (.iload 4, 0)] (pc' := 42) (lv' := [(4, .int (fcG σ 58 v3)), (0, .ref 57), (1, .int v1), (2, .int v2), (3, .int v3)]) (st' := [.int (fcG σ 58 v3), .int v2, .ref 58]) (σ' := σ) (by decide +kernel) rfl rfl rfl ?_
      refine fhW.callv hΓ mvX2_put ml_0_69 (t := 58) (ci := 2) (av := [.int v2, .int (fcG σ 58 v3)]) (rest := []) (r := none) (σ' := (fcP σ 58 v2 (fcG σ 58 v3))) (T_X2_put (E := fhEn Γ) (d := fhD Γ - 1) hE (by omega) 58 v2 (fcG σ 58 v3) rfl σ) (by omega) (by decide +kernel) rfl rfl rfl (Nat.le_of_ble_eq_true rfl) rfl ?_
      show fhW fhYF Γ 45 [(4, .int (fcG σ 58 v3)), (0, .ref 57), (1, .int v1), (2, .int v2), (3, .int v3)] [] (fcP σ 58 v2 (fcG σ 58 v3))
      refine fhW.blk fhPF fhLL hΓ [(.iinc 2 1, 1)] (pc' := 48) (lv' := [(2, .int (v2 + (1 : Int32))), (4, .int (fcG σ 58 v3)), (0, .ref 57), (1, .int v1), (3, .int v3)]) (st' := []) (σ' := (fcP σ 58 v2 (fcG σ 58 v3))) (by decide +kernel) rfl rfl rfl ?_
      refine fhW.sub (lv' := [(0, .ref 57), (1, .int v1), (2, .int (v2 + (1 : Int32))), (3, .int v3)]) [2, 3, 0, 4] rfl ?_
      exact L_X0_shrinkTo_48 hE hΓ hd v1 (v2 + (1 : Int32)) v3 (fcP σ 58 v2 (fcG σ 58 v3)) _ h hk
set_option maxRecDepth 100000 in
set_option maxHeartbeats 4000000 in
theorem L_X0_shrinkTo_E {Γ : fhX} (hE : fhEok fhYF (fhEn Γ)) (hΓ : fhOk fhYF 0 cX0_shrinkTo 5 (some .boolean) Γ) (hd : 1 ≤ fhD Γ) (v1 : Int32)  (σ : fhM) (o : Bool × fhM) (h : f_X0_shrinkTo v1 σ = some o) (hk : (fun o => fhRet Γ (some (.int (fhb o.1))) o.2) o) : fhW fhYF Γ 0 [(0, .ref 57), (1, .int v1)] [] σ := by
  unfold f_X0_shrinkTo at h
  refine fhW.blk fhPF fhLL hΓ [(.iconst 0, 0), (.istore_n 2, 0), (.iconst 0, 0), (.istore_n 3, 0)] (pc' := 4) (lv' := [(3, .int (0 : Int32)), (2, .int (0 : Int32)), (0, .ref 57), (1, .int v1)]) (st' := []) (σ' := σ) (by decide +kernel) rfl rfl rfl ?_
  refine fhW.sub (lv' := [(0, .ref 57), (1, .int v1), (2, .int (0 : Int32)), (3, .int (0 : Int32))]) [2, 3, 1, 0] rfl ?_
  exact fhlp_ok (W := (fun x => fhW fhYF Γ 4 [(0, .ref 57), (1, .int v1), (2, .int x.1), (3, .int x.2.1)] [] x.2.2)) (B := (fun o => fhRet Γ (some (.int (fhb o.1))) o.2)) (fun x o h hk => L_X0_shrinkTo_4 hE hΓ hd v1 x.1 x.2.1 x.2.2 o h hk) ((0 : Int32), (0 : Int32), σ) _ h hk
set_option maxRecDepth 100000 in
theorem T_X0_shrinkTo {E : fhE} {d : Nat} (hE : fhEok fhYF E) (hd : 1 ≤ d) (v1 : Int32)  (σ : fhM) {o : Bool × fhM} (h : f_X0_shrinkTo v1 σ = some o) : fhC fhYF E d miX0_shrinkTo [.ref 57, .int v1] σ (some (.int (fhb o.1))) o.2 := by
  refine fhC.of (y := yX0_shrinkTo) (cc := cX0_shrinkTo) (nL := 5) (ret := (some .boolean)) 0 rfl (by decide +kernel) (Nat.le_of_ble_eq_true rfl) ?_
  intro Γ hΓ hR hD hEn
  subst hD; subst hEn
  exact L_X0_shrinkTo_E hE hΓ hd v1  σ _ h hR
set_option maxRecDepth 100000 in
set_option maxHeartbeats 4000000 in
theorem L_X0_prepare_132 {Γ : fhX} (hE : fhEok fhYF (fhEn Γ)) (hΓ : fhOk fhYF 0 cX0_prepare 5 none Γ) (hd : 3 ≤ fhD Γ) (v2 : Int32)  (σ : fhM) (o : (Int32 × fhM) ⊕ (fhM)) (h : f_X0_prepare_132 v2 σ = some o) (hk : (fhK (fun x => fhW fhYF Γ 20 [(0, .ref 57), (1, .ref 56), (2, .int x.1)] [] x.2) (fun o => fhRet Γ none o)) o) : fhW fhYF Γ 132 [(0, .ref 57), (1, .ref 56), (2, .int v2)] [] σ := by
  unfold f_X0_prepare_132 at h
  refine fhW.blk fhPF fhLL hΓ [(.iinc 2 1, 1)] (pc' := 135) (lv' := [(2, .int (v2 + (1 : Int32))), (0, .ref 57), (1, .ref 56)]) (st' := []) (σ' := σ) (by decide +kernel) rfl rfl rfl ?_
  refine fhW.goto hΓ (off := (-115)) (tgt := 20) (by decide +kernel) ?_
  refine fhW.sub (lv' := [(0, .ref 57), (1, .ref 56), (2, .int (v2 + (1 : Int32)))]) [1, 2, 0] rfl ?_
  have e9 := Option.some.inj h
  subst e9
  exact hk
set_option maxRecDepth 100000 in
set_option maxHeartbeats 4000000 in
theorem L_X0_prepare_113 {Γ : fhX} (hE : fhEok fhYF (fhEn Γ)) (hΓ : fhOk fhYF 0 cX0_prepare 5 none Γ) (hd : 3 ≤ fhD Γ) (v2 : Int32) (v3 : Int32) (v4 : Int32)  (σ : fhM) (o : (Int32 × fhM) ⊕ ((Int32 × fhM) ⊕ (fhM))) (h : f_X0_prepare_113 v2 v3 v4 σ = some o) (hk : (fhK (fun x => fhW fhYF Γ 70 [(0, .ref 57), (1, .ref 56), (2, .int v2), (3, .int v3), (4, .int x.1)] [] x.2) (fhK (fun x => fhW fhYF Γ 20 [(0, .ref 57), (1, .ref 56), (2, .int x.1)] [] x.2) (fun o => fhRet Γ none o))) o) : fhW fhYF Γ 113 [(0, .ref 57), (1, .ref 56), (2, .int v2), (3, .int v3), (4, .int v4)] [] σ := by
  unfold f_X0_prepare_113 at h
  refine fhW.blk fhPF fhLL hΓ [(.iinc 4 1, 1)] (pc' := 116) (lv' := [(4, .int (v4 + (1 : Int32))), (0, .ref 57), (1, .ref 56), (2, .int v2), (3, .int v3)]) (st' := []) (σ' := σ) (by decide +kernel) rfl rfl rfl ?_
  refine fhW.goto hΓ (off := (-46)) (tgt := 70) (by decide +kernel) ?_
  refine fhW.sub (lv' := [(0, .ref 57), (1, .ref 56), (2, .int v2), (3, .int v3), (4, .int (v4 + (1 : Int32)))]) [1, 2, 3, 4, 0] rfl ?_
  have e9 := Option.some.inj h
  subst e9
  exact hk
set_option maxRecDepth 100000 in
set_option maxHeartbeats 4000000 in
theorem L_X0_prepare_70 {Γ : fhX} (hE : fhEok fhYF (fhEn Γ)) (hΓ : fhOk fhYF 0 cX0_prepare 5 none Γ) (hd : 3 ≤ fhD Γ) (v2 : Int32) (v3 : Int32) (v4 : Int32)  (σ : fhM) (o : (Int32 × fhM) ⊕ ((Int32 × fhM) ⊕ (fhM))) (h : f_X0_prepare_70 v2 v3 v4 σ = some o) (hk : (fhK (fun x => fhW fhYF Γ 70 [(0, .ref 57), (1, .ref 56), (2, .int v2), (3, .int v3), (4, .int x.1)] [] x.2) (fhK (fun x => fhW fhYF Γ 20 [(0, .ref 57), (1, .ref 56), (2, .int x.1)] [] x.2) (fun o => fhRet Γ none o))) o) : fhW fhYF Γ 70 [(0, .ref 57), (1, .ref 56), (2, .int v2), (3, .int v3), (4, .int v4)] [] σ := by
  unfold f_X0_prepare_70 at h
  refine fhW.blk fhPF fhLL hΓ [(.iload 4, 0), (.aload_n 1, 0), (.getfield 38, 0), (.getfield 60, 0)] (pc' := 79) (lv' := [(0, .ref 57), (1, .ref 56), (2, .int v2), (3, .int v3), (4, .int v4)]) (st' := [.int (σ.1 39 9), .int v4]) (σ' := σ) (by decide +kernel) rfl rfl rfl ?_
  refine fhW.i_ge hΓ (tgt := 119) (show fhbk _ _ (.if_icmp .ge (40)) _ = true by decide +kernel) (fun hc => ?_) (fun hc => ?_)
  · rw [if_pos hc] at h
    refine fhW.blk fhPF fhLL hΓ [(.aload_n 0, 0), (.iload_n 3, 0)] (pc' := 121) (lv' := [(0, .ref 57), (1, .ref 56), (2, .int v2), (3, .int v3), (4, .int v4)]) (st' := [.int v3, .ref 57]) (σ' := σ) (by decide +kernel) rfl rfl rfl ?_
    obtain ⟨q3, hb1, h⟩ := Option.bind_eq_some_iff.mp h
    refine fhW.callv hΓ mvX0_shrinkTo ml_0_73 (t := 57) (ci := 0) (av := [.int v3]) (rest := []) (r := (some (.int (fhb q3.1)))) (σ' := q3.2) (T_X0_shrinkTo (E := fhEn Γ) (d := fhD Γ - 1) hE (by omega) v3 σ hb1) (by omega) (by decide +kernel) rfl rfl rfl (Nat.le_of_ble_eq_true rfl) rfl ?_
    show fhW fhYF Γ 124 [(0, .ref 57), (1, .ref 56), (2, .int v2), (3, .int v3), (4, .int v4)] [.int (fhb q3.1)] q3.2
    refine fhW.b_ne hΓ (tgt := 132) (show fhbk _ _ (.ifCond .ne (8)) _ = true by decide +kernel) (fun hc => ?_) (fun hc => ?_)
    · rw [if_pos hc] at h
      refine fhW.sub (lv' := [(0, .ref 57), (1, .ref 56), (2, .int v2)]) [0, 1, 2] rfl ?_
      obtain ⟨z1, hz, e1⟩ := Option.map_eq_some_iff.mp h
      clear h
      subst e1
      have h := hz
      have hk : (fhK (fun x => fhW fhYF Γ 20 [(0, .ref 57), (1, .ref 56), (2, .int x.1)] [] x.2) (fun o => fhRet Γ none o)) z1 := hk
      exact L_X0_prepare_132 hE hΓ hd v2 q3.2 _ h hk
    · rw [if_neg hc] at h
      refine fhW.blk fhPF fhLL hΓ [(.aload_n 0, 0), (.iload_n 2, 0), (.putfield 34, 0)] (pc' := 132) (lv' := [(0, .ref 57), (1, .ref 56), (2, .int v2), (3, .int v3), (4, .int v4)]) (st' := []) (σ' := (fhI q3.2 57 5 v2)) (by decide +kernel) rfl rfl rfl ?_
      refine fhW.sub (lv' := [(0, .ref 57), (1, .ref 56), (2, .int v2)]) [0, 1, 2] rfl ?_
      obtain ⟨z2, hz, e2⟩ := Option.map_eq_some_iff.mp h
      clear h
      subst e2
      have h := hz
      have hk : (fhK (fun x => fhW fhYF Γ 20 [(0, .ref 57), (1, .ref 56), (2, .int x.1)] [] x.2) (fun o => fhRet Γ none o)) z2 := hk
      exact L_X0_prepare_132 hE hΓ hd v2 (fhI q3.2 57 5 v2) _ h hk
  · rw [if_neg hc] at h
    refine fhW.blk fhPF fhLL hΓ [(.iload_n 3, 0), (.iload 4, 0), (.ishr, 0), (.iconst 1, 1), (.iand, 0)] (pc' := 88) (lv' := [(0, .ref 57), (1, .ref 56), (2, .int v2), (3, .int v3), (4, .int v4)]) (st' := [.int ((v3 >>> (v4 &&& 31)) &&& (1 : Int32))]) (σ' := σ) (by decide +kernel) rfl rfl rfl ?_
    refine fhW.z_eq hΓ (tgt := 113) (show fhbk _ _ (.ifCond .eq (25)) _ = true by decide +kernel) (fun hc => ?_) (fun hc => ?_)
    · rw [if_pos hc] at h
      refine fhW.sub (lv' := [(0, .ref 57), (1, .ref 56), (2, .int v2), (3, .int v3), (4, .int v4)]) [0, 1, 2, 3, 4] rfl ?_
      exact L_X0_prepare_113 hE hΓ hd v2 v3 v4 σ _ h hk
    · rw [if_neg hc] at h
      refine fhW.blk fhPF fhLL hΓ [(.aload_n 0, 0), (.getfield 23, 0), (.iload 4, 0), (.aload_n 0, 0), (.getfield 23, 0), (.iload 4, 0)] (pc' := 103) (lv' := [(0, .ref 57), (1, .ref 56), (2, .int v2), (3, .int v3), (4, .int v4)]) (st' := [.int v4, .ref 62, .int v4, .ref 62]) (σ' := σ) (by decide +kernel) rfl rfl rfl ?_
      refine fhW.callv hΓ mvX2_get ml_0_56 (t := 62) (ci := 2) (av := [.int v4]) (rest := [.int v4, .ref 62]) (r := (some (.int (fcG σ 62 v4)))) (σ' := σ) (T_X2_get (E := fhEn Γ) (d := fhD Γ - 1) hE (by omega) 62 v4 rfl σ) (by omega) (by decide +kernel) rfl rfl rfl (Nat.le_of_ble_eq_true rfl) rfl ?_
      show fhW fhYF Γ 106 [(0, .ref 57), (1, .ref 56), (2, .int v2), (3, .int v3), (4, .int v4)] [.int (fcG σ 62 v4), .int v4, .ref 62] σ
      refine fhW.blk fhPF fhLL hΓ [(.iload_n 2, 0)] (pc' := 107) (lv' := [(0, .ref 57), (1, .ref 56), (2, .int v2), (3, .int v3), (4, .int v4)]) (st' := [.int v2, .int (fcG σ 62 v4), .int v4, .ref 62]) (σ' := σ) (by decide +kernel) rfl rfl rfl ?_
      refine fhW.calls hΓ msJ9_min_7cf53 ml_0_63 (av := [.int (fcG σ 62 v4), .int v2]) (rest := [.int v4, .ref 62]) (r := (some (.int (f_J9_min_7cf53 (fcG σ 62 v4) v2 σ)))) (σ' := σ) (T_J9_min_7cf53 (E := fhEn Γ) (d := fhD Γ - 1) hE (by omega) (fcG σ 62 v4) v2 σ) (by omega) (by decide +kernel) rfl (Nat.le_of_ble_eq_true rfl) rfl ?_
      show fhW fhYF Γ 110 [(0, .ref 57), (1, .ref 56), (2, .int v2), (3, .int v3), (4, .int v4)] [.int (f_J9_min_7cf53 (fcG σ 62 v4) v2 σ), .int v4, .ref 62] σ
      refine fhW.callv hΓ mvX2_put ml_0_69 (t := 62) (ci := 2) (av := [.int v4, .int (f_J9_min_7cf53 (fcG σ 62 v4) v2 σ)]) (rest := []) (r := none) (σ' := (fcP σ 62 v4 (f_J9_min_7cf53 (fcG σ 62 v4) v2 σ))) (T_X2_put (E := fhEn Γ) (d := fhD Γ - 1) hE (by omega) 62 v4 (f_J9_min_7cf53 (fcG σ 62 v4) v2 σ) rfl σ) (by omega) (by decide +kernel) rfl rfl rfl (Nat.le_of_ble_eq_true rfl) rfl ?_
      show fhW fhYF Γ 113 [(0, .ref 57), (1, .ref 56), (2, .int v2), (3, .int v3), (4, .int v4)] [] (fcP σ 62 v4 (f_J9_min_7cf53 (fcG σ 62 v4) v2 σ))
      refine fhW.sub (lv' := [(0, .ref 57), (1, .ref 56), (2, .int v2), (3, .int v3), (4, .int v4)]) [0, 1, 2, 3, 4] rfl ?_
      exact L_X0_prepare_113 hE hΓ hd v2 v3 v4 (fcP σ 62 v4 (f_J9_min_7cf53 (fcG σ 62 v4) v2 σ)) _ h hk
set_option maxRecDepth 100000 in
set_option maxHeartbeats 4000000 in
theorem L_X0_prepare_20 {Γ : fhX} (hE : fhEok fhYF (fhEn Γ)) (hΓ : fhOk fhYF 0 cX0_prepare 5 none Γ) (hd : 3 ≤ fhD Γ) (v2 : Int32)  (σ : fhM) (o : (Int32 × fhM) ⊕ (fhM)) (h : f_X0_prepare_20 v2 σ = some o) (hk : (fhK (fun x => fhW fhYF Γ 20 [(0, .ref 57), (1, .ref 56), (2, .int x.1)] [] x.2) (fun o => fhRet Γ none o)) o) : fhW fhYF Γ 20 [(0, .ref 57), (1, .ref 56), (2, .int v2)] [] σ := by
  unfold f_X0_prepare_20 at h
  refine fhW.blk fhPF fhLL hΓ [(.iload_n 2, 0), (.bipush 20, 20)] (pc' := 23) (lv' := [(0, .ref 57), (1, .ref 56), (2, .int v2)]) (st' := [.int (20 : Int32), .int v2]) (σ' := σ) (by decide +kernel) rfl rfl rfl ?_
  refine fhW.i_gt hΓ (tgt := 138) (show fhbk _ _ (.if_icmp .gt (115)) _ = true by decide +kernel) (fun hc => ?_) (fun hc => ?_)
  · rw [if_pos hc] at h
    have e9 := Option.some.inj h
    subst e9
    exact fhW.vret hΓ (by decide +kernel) hk
  · rw [if_neg hc] at h
    refine fhW.blk fhPF fhLL hΓ [(.aload_n 0, 0), (.getfield 34, 0), (.bipush 99, 99)] (pc' := 32) (lv' := [(0, .ref 57), (1, .ref 56), (2, .int v2)]) (st' := [.int (99 : Int32), .int (σ.1 57 5)]) (σ' := σ) (by decide +kernel) rfl rfl rfl ?_
    refine fhW.i_ne hΓ (tgt := 138) (show fhbk _ _ (.if_icmp .ne (106)) _ = true by decide +kernel) (fun hc => ?_) (fun hc => ?_)
    · rw [if_neg hc] at h
      have e9 := Option.some.inj h
      subst e9
      exact fhW.vret hΓ (by decide +kernel) hk
    · rw [if_pos hc] at h
      refine fhW.blk fhPF fhLL hΓ [(.aload_n 1, 0), (.getfield 38, 0), (.aload_n 0, 0), (.getfield 14, 0), (.iconst 0, 0), (.aload_n 0, 0), (.getfield 44, 0), (.aload_n 0, 0), (.getfield 20, 0)] (pc' := 52) (lv' := [(0, .ref 57), (1, .ref 56), (2, .int v2)]) (st' := [.ref 60, .int (σ.1 57 2), .int (0 : Int32), .ref 58, .ref 39]) (σ' := σ) (by decide +kernel) rfl rfl rfl ?_
      obtain ⟨q2, hb2, h⟩ := Option.bind_eq_some_iff.mp h
      refine fhW.callv hΓ mvX9_findKnowers ml_0_47 (t := 39) (ci := 9) (av := [.ref 58, .int (0 : Int32), .int (σ.1 57 2), .ref 60]) (rest := []) (r := none) (σ' := q2) (T_X9_findKnowers (E := fhEn Γ) (d := fhD Γ - 1) hE (by omega) 58 (0 : Int32) (σ.1 57 2) 60 rfl rfl σ hb2) (by omega) (by decide +kernel) rfl rfl rfl (Nat.le_of_ble_eq_true rfl) rfl ?_
      show fhW fhYF Γ 55 [(0, .ref 57), (1, .ref 56), (2, .int v2)] [] q2
      refine fhW.blk fhPF fhLL hΓ [(.aload_n 0, 0), (.getfield 20, 0), (.aload_n 1, 0), (.getfield 53, 0)] (pc' := 63) (lv' := [(0, .ref 57), (1, .ref 56), (2, .int v2)]) (st' := [.int (q2.1 56 9), .ref 60]) (σ' := q2) (by decide +kernel) rfl rfl rfl ?_
      refine fhW.callv hΓ mvX2_get ml_0_56 (t := 60) (ci := 2) (av := [.int (q2.1 56 9)]) (rest := []) (r := (some (.int (fcG q2 60 (q2.1 56 9))))) (σ' := q2) (T_X2_get (E := fhEn Γ) (d := fhD Γ - 1) hE (by omega) 60 (q2.1 56 9) rfl q2) (by omega) (by decide +kernel) rfl rfl rfl (Nat.le_of_ble_eq_true rfl) rfl ?_
      show fhW fhYF Γ 66 [(0, .ref 57), (1, .ref 56), (2, .int v2)] [.int (fcG q2 60 (q2.1 56 9))] q2
      refine fhW.blk fhPF fhLL hΓ [(.istore_n 3, 0), (.iconst 0, 0), (.istore 4, 0)] (pc' := 70) (lv' := [(4, .int (0 : Int32)), (3, .int (fcG q2 60 (q2.1 56 9))), (0, .ref 57), (1, .ref 56), (2, .int v2)]) (st' := []) (σ' := q2) (by decide +kernel) rfl rfl rfl ?_
      refine fhW.sub (lv' := [(0, .ref 57), (1, .ref 56), (2, .int v2), (3, .int (fcG q2 60 (q2.1 56 9))), (4, .int (0 : Int32))]) [2, 3, 4, 1, 0] rfl ?_
      exact fhlp_ok (W := (fun x => fhW fhYF Γ 70 [(0, .ref 57), (1, .ref 56), (2, .int v2), (3, .int (fcG q2 60 (q2.1 56 9))), (4, .int x.1)] [] x.2)) (B := (fhK (fun x => fhW fhYF Γ 20 [(0, .ref 57), (1, .ref 56), (2, .int x.1)] [] x.2) (fun o => fhRet Γ none o))) (fun x o h hk => L_X0_prepare_70 hE hΓ hd v2 (fcG q2 60 (q2.1 56 9)) x.1 x.2 o h hk) ((0 : Int32), q2) _ h hk
set_option maxRecDepth 100000 in
set_option maxHeartbeats 4000000 in
theorem L_X0_prepare_E {Γ : fhX} (hE : fhEok fhYF (fhEn Γ)) (hΓ : fhOk fhYF 0 cX0_prepare 5 none Γ) (hd : 3 ≤ fhD Γ)   (σ : fhM) (o : fhM) (h : f_X0_prepare σ = some o) (hk : (fun o => fhRet Γ none o) o) : fhW fhYF Γ 0 [(0, .ref 57), (1, .ref 56)] [] σ := by
  unfold f_X0_prepare at h
  refine fhW.blk fhPF fhLL hΓ [(.aload_n 0, 0), (.getfield 26, 0)] (pc' := 4) (lv' := [(0, .ref 57), (1, .ref 56)]) (st' := [.int (σ.1 57 3)]) (σ' := σ) (by decide +kernel) rfl rfl rfl ?_
  refine fhW.z_eq hΓ (tgt := 8) (show fhbk _ _ (.ifCond .eq (4)) _ = true by decide +kernel) (fun hc => ?_) (fun hc => ?_)
  · rw [if_pos hc] at h
    refine fhW.blk fhPF fhLL hΓ [(.aload_n 0, 0), (.iconst 1, 1), (.putfield 26, 0), (.aload_n 0, 0), (.aload_n 1, 0)] (pc' := 15) (lv' := [(0, .ref 57), (1, .ref 56)]) (st' := [.ref 56, .ref 57]) (σ' := (fhI σ 57 3 (1 : Int32))) (by decide +kernel) rfl rfl rfl ?_
    obtain ⟨q1, hb3, h⟩ := Option.bind_eq_some_iff.mp h
    refine fhW.callv hΓ mvX0_start ml_0_30 (t := 57) (ci := 0) (av := [.ref 56]) (rest := []) (r := none) (σ' := q1) (T_X0_start (E := fhEn Γ) (d := fhD Γ - 1) hE (by omega) (fhI σ 57 3 (1 : Int32)) hb3) (by omega) (by decide +kernel) rfl rfl rfl (Nat.le_of_ble_eq_true rfl) rfl ?_
    show fhW fhYF Γ 18 [(0, .ref 57), (1, .ref 56)] [] q1
    refine fhW.blk fhPF fhLL hΓ [(.iconst 0, 0), (.istore_n 2, 0)] (pc' := 20) (lv' := [(2, .int (0 : Int32)), (0, .ref 57), (1, .ref 56)]) (st' := []) (σ' := q1) (by decide +kernel) rfl rfl rfl ?_
    refine fhW.sub (lv' := [(0, .ref 57), (1, .ref 56), (2, .int (0 : Int32))]) [1, 2, 0] rfl ?_
    exact fhlp_ok (W := (fun x => fhW fhYF Γ 20 [(0, .ref 57), (1, .ref 56), (2, .int x.1)] [] x.2)) (B := (fun o => fhRet Γ none o)) (fun x o h hk => L_X0_prepare_20 hE hΓ hd x.1 x.2 o h hk) ((0 : Int32), q1) _ h hk
  · rw [if_neg hc] at h
    have e9 := Option.some.inj h
    subst e9
    exact fhW.vret hΓ (by decide +kernel) hk
set_option maxRecDepth 100000 in
theorem T_X0_prepare {E : fhE} {d : Nat} (hE : fhEok fhYF E) (hd : 3 ≤ d)   (σ : fhM) {o : fhM} (h : f_X0_prepare σ = some o) : fhC fhYF E d miX0_prepare [.ref 57, .ref 56] σ none o := by
  refine fhC.of (y := yX0_prepare) (cc := cX0_prepare) (nL := 5) (ret := none) 0 rfl (by decide +kernel) (Nat.le_of_ble_eq_true rfl) ?_
  intro Γ hΓ hR hD hEn
  subst hD; subst hEn
  exact L_X0_prepare_E hE hΓ hd   σ _ h hR
set_option maxRecDepth 100000 in
set_option maxHeartbeats 4000000 in
theorem L_X4_lookAhead_E {Γ : fhX} (hE : fhEok fhYF (fhEn Γ)) (hΓ : fhOk fhYF 4 cX4_lookAhead 1 (some (.object "ForeheadMarks$Ahead")) Γ) (hd : 4 ≤ fhD Γ)   (σ : fhM) (o : fhM) (h : f_X4_lookAhead σ = some o) (hk : (fun o => fhRet Γ (some (.ref 57)) o) o) : fhW fhYF Γ 0 [(0, .ref 56)] [] σ := by
  unfold f_X4_lookAhead at h
  refine fhW.blk fhPF fhLL hΓ [(.aload_n 0, 0), (.getfield 12, 0), (.aload_n 0, 0)] (pc' := 5) (lv' := [(0, .ref 56)]) (st' := [.ref 56, .ref 57]) (σ' := σ) (by decide +kernel) rfl rfl rfl ?_
  obtain ⟨q1, hb1, h⟩ := Option.bind_eq_some_iff.mp h
  refine fhW.callv hΓ mvX0_prepare ml_4_106 (t := 57) (ci := 0) (av := [.ref 56]) (rest := []) (r := none) (σ' := q1) (T_X0_prepare (E := fhEn Γ) (d := fhD Γ - 1) hE (by omega) σ hb1) (by omega) (by decide +kernel) rfl rfl rfl (Nat.le_of_ble_eq_true rfl) rfl ?_
  show fhW fhYF Γ 8 [(0, .ref 56)] [] q1
  refine fhW.blk fhPF fhLL hΓ [(.aload_n 0, 0), (.getfield 12, 0)] (pc' := 12) (lv' := [(0, .ref 56)]) (st' := [.ref 57]) (σ' := q1) (by decide +kernel) rfl rfl rfl ?_
  have e9 := Option.some.inj h
  subst e9
  exact fhW.aret hΓ (by decide +kernel) hk
set_option maxRecDepth 100000 in
theorem T_X4_lookAhead {E : fhE} {d : Nat} (hE : fhEok fhYF E) (hd : 4 ≤ d)   (σ : fhM) {o : fhM} (h : f_X4_lookAhead σ = some o) : fhC fhYF E d miX4_lookAhead [.ref 56] σ (some (.ref 57)) o := by
  refine fhC.of (y := yX4_lookAhead) (cc := cX4_lookAhead) (nL := 1) (ret := (some (.object "ForeheadMarks$Ahead"))) 4 rfl (by decide +kernel) (Nat.le_of_ble_eq_true rfl) ?_
  intro Γ hΓ hR hD hEn
  subst hD; subst hEn
  exact L_X4_lookAhead_E hE hΓ hd   σ _ h hR

