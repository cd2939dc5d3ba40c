set_option maxRecDepth 100000 in
set_option maxHeartbeats 4000000 in
theorem L_X9_build_198 {Γ : fhX} (hE : fhEok fhYF (fhEn Γ)) (hΓ : fhOk fhYF 9 cX9_build 4 none Γ) (hd : 6 ≤ fhD Γ) (v1 : Nat) (v3 : Int32) (hv1 : fhiP v1 = true) (σ : fhM) (o : (Int32 × fhM) ⊕ (fhM)) (h : f_X9_build_198 v1 v3 σ = some o) (hk : (fhK (fun x => fhW fhYF Γ 120 [(0, .ref 39), (1, .ref v1), (2, .ref 10), (3, .int x.1)] [] x.2) (fun o => fhRet Γ none o)) o) : fhW fhYF Γ 198 [(0, .ref 39), (1, .ref v1), (2, .ref 10), (3, .int v3)] [] σ := by
  unfold f_X9_build_198 at h
  refine fhW.blk fhPF fhLL hΓ [(.iinc 3 1, 1)] (pc' := 201) (lv' := [(3, .int (v3 + (1 : Int32))), (0, .ref 39), (1, .ref v1), (2, .ref 10)]) (st' := []) (σ' := σ) (by decide +kernel) rfl rfl rfl ?_
  refine fhW.goto hΓ (off := (-81)) (tgt := 120) (by decide +kernel) ?_
  refine fhW.sub (lv' := [(0, .ref 39), (1, .ref v1), (2, .ref 10), (3, .int (v3 + (1 : Int32)))]) [1, 2, 3, 0] rfl ?_
  have e9 := Option.some.inj h
  subst e9
  exact hk
set_option maxRecDepth 100000 in
set_option maxHeartbeats 4000000 in
theorem L_X9_build_120 {Γ : fhX} (hE : fhEok fhYF (fhEn Γ)) (hΓ : fhOk fhYF 9 cX9_build 4 none Γ) (hd : 6 ≤ fhD Γ) (v1 : Nat) (v3 : Int32) (hv1 : fhiP v1 = true) (σ : fhM) (o : (Int32 × fhM) ⊕ (fhM)) (h : f_X9_build_120 v1 v3 σ = some o) (hk : (fhK (fun x => fhW fhYF Γ 120 [(0, .ref 39), (1, .ref v1), (2, .ref 10), (3, .int x.1)] [] x.2) (fun o => fhRet Γ none o)) o) : fhW fhYF Γ 120 [(0, .ref 39), (1, .ref v1), (2, .ref 10), (3, .int v3)] [] σ := by
  unfold f_X9_build_120 at h
  refine fhW.blk fhPF fhLL hΓ [(.iload_n 3, 0), (.aload_n 0, 0), (.getfield 73, 0)] (pc' := 125) (lv' := [(0, .ref 39), (1, .ref v1), (2, .ref 10), (3, .int v3)]) (st' := [.int (σ.1 39 11), .int v3]) (σ' := σ) (by decide +kernel) rfl rfl rfl ?_
  refine fhW.i_ge hΓ (tgt := 204) (show fhbk _ _ (.if_icmp .ge (79)) _ = true by decide +kernel) (fun hc => ?_) (fun hc => ?_)
  · rw [if_pos hc] at h
    have e9 := Option.some.inj h
    subst e9
    exact fhW.vret hΓ (by decide +kernel) hk
  · rw [if_neg hc] at h
    refine fhW.blk fhPF fhLL hΓ [(.aload_n 0, 0), (.iload_n 3, 0)] (pc' := 130) (lv' := [(0, .ref 39), (1, .ref v1), (2, .ref 10), (3, .int v3)]) (st' := [.int v3, .ref 39]) (σ' := σ) (by decide +kernel) rfl rfl rfl ?_
    obtain ⟨q1, hb1, h⟩ := Option.bind_eq_some_iff.mp h
    refine fhW.callv hΓ mvX9_fillViews ml_9_82 (t := 39) (ci := 9) (av := [.int v3]) (rest := []) (r := none) (σ' := q1) (T_X9_fillViews (E := fhEn Γ) (d := fhD Γ - 1) hE (by omega) v3 σ hb1) (by omega) (by decide +kernel) rfl rfl rfl (Nat.le_of_ble_eq_true rfl) rfl ?_
    show fhW fhYF Γ 133 [(0, .ref 39), (1, .ref v1), (2, .ref 10), (3, .int v3)] [] q1
    refine fhW.blk fhPF fhLL hΓ [(.aload_n 2, 0), (.iload_n 3, 0), (.aload_n 0, 0), (.getfield 47, 0), (.aload_n 0, 0), (.getfield 51, 0)] (pc' := 143) (lv' := [(0, .ref 39), (1, .ref v1), (2, .ref 10), (3, .int v3)]) (st' := [.int (q1.1 39 9), .int (q1.1 39 5), .int v3, .ref 10]) (σ' := q1) (by decide +kernel) rfl rfl rfl ?_
    obtain ⟨q2, hb2, h⟩ := Option.bind_eq_some_iff.mp h
    refine fhW.callv hΓ mvX10_fillFromRow ml_9_85 (t := 10) (ci := 10) (av := [.int v3, .int (q1.1 39 5), .int (q1.1 39 9)]) (rest := []) (r := none) (σ' := q2) (T_X10_fillFromRow (E := fhEn Γ) (d := fhD Γ - 1) hE (by omega) v3 (q1.1 39 5) (q1.1 39 9) q1 hb2) (by omega) (by decide +kernel) rfl rfl rfl (Nat.le_of_ble_eq_true rfl) rfl ?_
    show fhW fhYF Γ 146 [(0, .ref 39), (1, .ref v1), (2, .ref 10), (3, .int v3)] [] q2
    refine fhW.blk fhPF fhLL hΓ [(.aload_n 1, 0), (.aload_n 2, 0)] (pc' := 148) (lv' := [(0, .ref 39), (1, .ref v1), (2, .ref 10), (3, .int v3)]) (st' := [.ref 10, .ref v1]) (σ' := q2) (by decide +kernel) rfl rfl rfl ?_
    obtain ⟨q3, hb3, h⟩ := Option.bind_eq_some_iff.mp h
    refine fhW.callv hΓ mvX7_rulesHold ml_9_91 (t := v1) (ci := 7) (av := [.ref 10]) (rest := []) (r := (some (.int (fhb q3.1)))) (σ' := q3.2) (T_X7_rulesHold (E := fhEn Γ) (d := fhD Γ - 1) hE (by omega) v1 hv1 q2 hb3) (by omega) (by decide +kernel) rfl (fhiP_g hv1) rfl (Nat.le_of_ble_eq_true rfl) rfl ?_
    show fhW fhYF Γ 151 [(0, .ref 39), (1, .ref v1), (2, .ref 10), (3, .int v3)] [.int (fhb q3.1)] q3.2
    refine fhW.b_eq hΓ (tgt := 198) (show fhbk _ _ (.ifCond .eq (47)) _ = true by decide +kernel) (fun hc => ?_) (fun hc => ?_)
    · rw [if_neg hc] at h
      refine fhW.sub (lv' := [(0, .ref 39), (1, .ref v1), (2, .ref 10), (3, .int v3)]) [0, 1, 2, 3] rfl ?_
      exact L_X9_build_198 hE hΓ hd v1 v3 hv1 q3.2 _ h hk
    · rw [if_pos hc] at h
      refine fhW.blk fhPF fhLL hΓ [(.aload_n 0, 0), (.getfield 35, 0), (.iload_n 3, 0), (.aload_n 1, 0), (.aload_n 2, 0)] (pc' := 161) (lv' := [(0, .ref 39), (1, .ref v1), (2, .ref 10), (3, .int v3)]) (st' := [.ref 10, .ref v1, .int v3, .ref 52]) (σ' := q3.2) (by decide +kernel) rfl rfl rfl ?_
      obtain ⟨q4, hb4, h⟩ := Option.bind_eq_some_iff.mp h
      refine fhW.callv hΓ mvX7_truthBits ml_9_95 (t := v1) (ci := 7) (av := [.ref 10]) (rest := [.int v3, .ref 52]) (r := (some (.int q4.1))) (σ' := q4.2) (T_X7_truthBits (E := fhEn Γ) (d := fhD Γ - 1) hE (by omega) v1 hv1 q3.2 hb4) (by omega) (by decide +kernel) rfl (fhiP_g hv1) rfl (Nat.le_of_ble_eq_true rfl) rfl ?_
      show fhW fhYF Γ 164 [(0, .ref 39), (1, .ref v1), (2, .ref 10), (3, .int v3)] [.int q4.1, .int v3, .ref 52] q4.2
      refine fhW.callv hΓ mvX2_put ml_9_56 (t := 52) (ci := 2) (av := [.int v3, .int q4.1]) (rest := []) (r := none) (σ' := (fcP q4.2 52 v3 q4.1)) (T_X2_put (E := fhEn Γ) (d := fhD Γ - 1) hE (by omega) 52 v3 q4.1 rfl q4.2) (by omega) (by decide +kernel) rfl rfl rfl (Nat.le_of_ble_eq_true rfl) rfl ?_
      show fhW fhYF Γ 167 [(0, .ref 39), (1, .ref v1), (2, .ref 10), (3, .int v3)] [] (fcP q4.2 52 v3 q4.1)
      refine fhW.blk fhPF fhLL hΓ [(.aload_n 0, 0), (.getfield 26, 0), (.iload_n 3, 0), (.iconst 1, 1)] (pc' := 173) (lv' := [(0, .ref 39), (1, .ref v1), (2, .ref 10), (3, .int v3)]) (st' := [.int (1 : Int32), .int v3, .ref 46]) (σ' := (fcP q4.2 52 v3 q4.1)) (by decide +kernel) rfl rfl rfl ?_
      refine fhW.callv hΓ mvX2_put ml_9_56 (t := 46) (ci := 2) (av := [.int v3, .int (1 : Int32)]) (rest := []) (r := none) (σ' := (fcP (fcP q4.2 52 v3 q4.1) 46 v3 (1 : Int32))) (T_X2_put (E := fhEn Γ) (d := fhD Γ - 1) hE (by omega) 46 v3 (1 : Int32) rfl (fcP q4.2 52 v3 q4.1)) (by omega) (by decide +kernel) rfl rfl rfl (Nat.le_of_ble_eq_true rfl) rfl ?_
      show fhW fhYF Γ 176 [(0, .ref 39), (1, .ref v1), (2, .ref 10), (3, .int v3)] [] (fcP (fcP q4.2 52 v3 q4.1) 46 v3 (1 : Int32))
      refine fhW.blk fhPF fhLL hΓ [(.aload_n 0, 0), (.getfield 38, 0), (.aload_n 0, 0), (.getfield 79, 0), (.iload_n 3, 0)] (pc' := 185) (lv' := [(0, .ref 39), (1, .ref v1), (2, .ref 10), (3, .int v3)]) (st' := [.int v3, .int (q4.2.1 39 12), .ref 54]) (σ' := (fcP (fcP q4.2 52 v3 q4.1) 46 v3 (1 : Int32))) (by decide +kernel) rfl rfl rfl ?_
      refine fhW.callv hΓ mvX2_put ml_9_56 (t := 54) (ci := 2) (av := [.int (q4.2.1 39 12), .int v3]) (rest := []) (r := none) (σ' := (fcP (fcP (fcP q4.2 52 v3 q4.1) 46 v3 (1 : Int32)) 54 (q4.2.1 39 12) v3)) (T_X2_put (E := fhEn Γ) (d := fhD Γ - 1) hE (by omega) 54 (q4.2.1 39 12) v3 rfl (fcP (fcP q4.2 52 v3 q4.1) 46 v3 (1 : Int32))) (by omega) (by decide +kernel) rfl rfl rfl (Nat.le_of_ble_eq_true rfl) rfl ?_
      show fhW fhYF Γ 188 [(0, .ref 39), (1, .ref v1), (2, .ref 10), (3, .int v3)] [] (fcP (fcP (fcP q4.2 52 v3 q4.1) 46 v3 (1 : Int32)) 54 (q4.2.1 39 12) v3)
      refine fhW.blk fhPF fhLL hΓ [(.aload_n 0, 0), (.dup, 0), (.getfield 79, 0), (.iconst 1, 1), (.iadd, 0), (.putfield 79, 0)] (pc' := 198) (lv' := [(0, .ref 39), (1, .ref v1), (2, .ref 10), (3, .int v3)]) (st' := []) (σ' := (fhI (fcP (fcP (fcP q4.2 52 v3 q4.1) 46 v3 (1 : Int32)) 54 (q4.2.1 39 12) v3) 39 12 ((q4.2.1 39 12) + (1 : Int32)))) (by decide +kernel) rfl rfl rfl ?_
      refine fhW.sub (lv' := [(0, .ref 39), (1, .ref v1), (2, .ref 10), (3, .int v3)]) [0, 1, 2, 3] rfl ?_
      exact L_X9_build_198 hE hΓ hd v1 v3 hv1 (fhI (fcP (fcP (fcP q4.2 52 v3 q4.1) 46 v3 (1 : Int32)) 54 (q4.2.1 39 12) v3) 39 12 ((q4.2.1 39 12) + (1 : Int32))) _ h hk
set_option maxRecDepth 100000 in
set_option maxHeartbeats 4000000 in
theorem L_X9_build_35 {Γ : fhX} (hE : fhEok fhYF (fhEn Γ)) (hΓ : fhOk fhYF 9 cX9_build 4 none Γ) (hd : 6 ≤ fhD Γ) (v1 : Nat) (v3 : Int32) (hv1 : fhiP v1 = true) (σ : fhM) (o : (Int32 × fhM) ⊕ (fhM)) (h : f_X9_build_35 v1 v3 σ = some o) (hk : (fhK (fun x => fhW fhYF Γ 35 [(0, .ref 39), (1, .ref v1), (2, .ref 10), (3, .int x.1)] [] x.2) (fun o => fhRet Γ none o)) o) : fhW fhYF Γ 35 [(0, .ref 39), (1, .ref v1), (2, .ref 10), (3, .int v3)] [] σ := by
  unfold f_X9_build_35 at h
  refine fhW.blk fhPF fhLL hΓ [(.iload_n 3, 0), (.aload_n 0, 0), (.getfield 51, 0)] (pc' := 40) (lv' := [(0, .ref 39), (1, .ref v1), (2, .ref 10), (3, .int v3)]) (st' := [.int (σ.1 39 9), .int v3]) (σ' := σ) (by decide +kernel) rfl rfl rfl ?_
  refine fhW.i_ge hΓ (tgt := 85) (show fhbk _ _ (.if_icmp .ge (45)) _ = true by decide +kernel) (fun hc => ?_) (fun hc => ?_)
  · rw [if_pos hc] at h
    refine fhW.blk fhPF fhLL hΓ [(.aload_n 0, 0), (.aload_n 0, 0), (.getfield 14, 0), (.aload_n 0, 0), (.getfield 51, 0)] (pc' := 94) (lv' := [(0, .ref 39), (1, .ref v1), (2, .ref 10), (3, .int v3)]) (st' := [.int (σ.1 39 9), .ref 40, .ref 39]) (σ' := σ) (by decide +kernel) rfl rfl rfl ?_
    refine fhW.callv hΓ mvX2_get ml_9_60 (t := 40) (ci := 2) (av := [.int (σ.1 39 9)]) (rest := [.ref 39]) (r := (some (.int (fcG σ 40 (σ.1 39 9))))) (σ' := σ) (T_X2_get (E := fhEn Γ) (d := fhD Γ - 1) hE (by omega) 40 (σ.1 39 9) rfl σ) (by omega) (by decide +kernel) rfl rfl rfl (Nat.le_of_ble_eq_true rfl) rfl ?_
    show fhW fhYF Γ 97 [(0, .ref 39), (1, .ref v1), (2, .ref 10), (3, .int v3)] [.int (fcG σ 40 (σ.1 39 9)), .ref 39] σ
    refine fhW.blk fhPF fhLL hΓ [(.sipush 1024, 1024)] (pc' := 100) (lv' := [(0, .ref 39), (1, .ref v1), (2, .ref 10), (3, .int v3)]) (st' := [.int (1024 : Int32), .int (fcG σ 40 (σ.1 39 9)), .ref 39]) (σ' := σ) (by decide +kernel) rfl rfl rfl ?_
    refine fhW.calls hΓ msJ9_min_7cf53 ml_9_67 (av := [.int (fcG σ 40 (σ.1 39 9)), .int (1024 : Int32)]) (rest := [.ref 39]) (r := (some (.int (f_J9_min_7cf53 (fcG σ 40 (σ.1 39 9)) (1024 : Int32) σ)))) (σ' := σ) (T_J9_min_7cf53 (E := fhEn Γ) (d := fhD Γ - 1) hE (by omega) (fcG σ 40 (σ.1 39 9)) (1024 : Int32) σ) (by omega) (by decide +kernel) rfl (Nat.le_of_ble_eq_true rfl) rfl ?_
    show fhW fhYF Γ 103 [(0, .ref 39), (1, .ref v1), (2, .ref 10), (3, .int v3)] [.int (f_J9_min_7cf53 (fcG σ 40 (σ.1 39 9)) (1024 : Int32) σ), .ref 39] σ
    refine fhW.blk fhPF fhLL hΓ [(.putfield 73, 0), (.aload_n 0, 0), (.getfield 26, 0)] (pc' := 110) (lv' := [(0, .ref 39), (1, .ref v1), (2, .ref 10), (3, .int v3)]) (st' := [.ref 46]) (σ' := (fhI σ 39 11 (f_J9_min_7cf53 (fcG σ 40 (σ.1 39 9)) (1024 : Int32) σ))) (by decide +kernel) rfl rfl rfl ?_
    refine fhW.callv hΓ mvX2_wipe ml_9_76 (t := 46) (ci := 2) (av := []) (rest := []) (r := none) (σ' := (fcW (fhI σ 39 11 (f_J9_min_7cf53 (fcG σ 40 (σ.1 39 9)) (1024 : Int32) σ)) 46)) (T_X2_wipe (E := fhEn Γ) (d := fhD Γ - 1) hE (by omega) 46 rfl (fhI σ 39 11 (f_J9_min_7cf53 (fcG σ 40 (σ.1 39 9)) (1024 : Int32) σ))) (by omega) (by decide +kernel) rfl rfl rfl (Nat.le_of_ble_eq_true rfl) rfl ?_
    show fhW fhYF Γ 113 [(0, .ref 39), (1, .ref v1), (2, .ref 10), (3, .int v3)] [] (fcW (fhI σ 39 11 (f_J9_min_7cf53 (fcG σ 40 (σ.1 39 9)) (1024 : Int32) σ)) 46)
    refine fhW.blk fhPF fhLL hΓ [(.aload_n 0, 0), (.iconst 0, 0), (.putfield 79, 0), (.iconst 0, 0), (.istore_n 3, 0)] (pc' := 120) (lv' := [(3, .int (0 : Int32)), (0, .ref 39), (1, .ref v1), (2, .ref 10)]) (st' := []) (σ' := (fhI (fcW (fhI σ 39 11 (f_J9_min_7cf53 (fcG σ 40 (σ.1 39 9)) (1024 : Int32) σ)) 46) 39 12 (0 : Int32))) (by decide +kernel) rfl rfl rfl ?_
    refine fhW.sub (lv' := [(0, .ref 39), (1, .ref v1), (2, .ref 10), (3, .int (0 : Int32))]) [1, 2, 3, 0] rfl ?_
    obtain ⟨z1, hz, e1⟩ := Option.map_eq_some_iff.mp h
    clear h
    subst e1
    have h := hz
    have hk : (fun o => fhRet Γ none o) z1 := hk
    exact fhlp_ok (W := (fun x => fhW fhYF Γ 120 [(0, .ref 39), (1, .ref v1), (2, .ref 10), (3, .int x.1)] [] x.2)) (B := (fun o => fhRet Γ none o)) (fun x o h hk => L_X9_build_120 hE hΓ hd v1 x.1 hv1 x.2 o h hk) ((0 : Int32), (fhI (fcW (fhI σ 39 11 (f_J9_min_7cf53 (fcG σ 40 (σ.1 39 9)) (1024 : Int32) σ)) 46) 39 12 (0 : Int32))) _ h hk
  · rw [if_neg hc] at h
    refine fhW.blk fhPF fhLL hΓ [(.aload_n 0, 0), (.getfield 14, 0), (.iload_n 3, 0), (.iconst 1, 1), (.iadd, 0), (.aload_n 0, 0), (.getfield 14, 0), (.iload_n 3, 0)] (pc' := 55) (lv' := [(0, .ref 39), (1, .ref v1), (2, .ref 10), (3, .int v3)]) (st' := [.int v3, .ref 40, .int (v3 + (1 : Int32)), .ref 40]) (σ' := σ) (by decide +kernel) rfl rfl rfl ?_
    refine fhW.callv hΓ mvX2_get ml_9_60 (t := 40) (ci := 2) (av := [.int v3]) (rest := [.int (v3 + (1 : Int32)), .ref 40]) (r := (some (.int (fcG σ 40 v3)))) (σ' := σ) (T_X2_get (E := fhEn Γ) (d := fhD Γ - 1) hE (by omega) 40 v3 rfl σ) (by omega) (by decide +kernel) rfl rfl rfl (Nat.le_of_ble_eq_true rfl) rfl ?_
    show fhW fhYF Γ 58 [(0, .ref 39), (1, .ref v1), (2, .ref 10), (3, .int v3)] [.int (fcG σ 40 v3), .int (v3 + (1 : Int32)), .ref 40] σ
    refine fhW.blk fhPF fhLL hΓ [(.aload_n 0, 0), (.getfield 47, 0), (.imul, 0)] (pc' := 63) (lv' := [(0, .ref 39), (1, .ref v1), (2, .ref 10), (3, .int v3)]) (st' := [.int ((fcG σ 40 v3) * (σ.1 39 5)), .int (v3 + (1 : Int32)), .ref 40]) (σ' := σ) (by decide +kernel) rfl rfl rfl ?_
    refine fhW.callv hΓ mvX2_put ml_9_56 (t := 40) (ci := 2) (av := [.int (v3 + (1 : Int32)), .int ((fcG σ 40 v3) * (σ.1 39 5))]) (rest := []) (r := none) (σ' := (fcP σ 40 (v3 + (1 : Int32)) ((fcG σ 40 v3) * (σ.1 39 5)))) (T_X2_put (E := fhEn Γ) (d := fhD Γ - 1) hE (by omega) 40 (v3 + (1 : Int32)) ((fcG σ 40 v3) * (σ.1 39 5)) rfl σ) (by omega) (by decide +kernel) rfl rfl rfl (Nat.le_of_ble_eq_true rfl) rfl ?_
    show fhW fhYF Γ 66 [(0, .ref 39), (1, .ref v1), (2, .ref 10), (3, .int v3)] [] (fcP σ 40 (v3 + (1 : Int32)) ((fcG σ 40 v3) * (σ.1 39 5)))
    refine fhW.blk fhPF fhLL hΓ [(.aload_n 0, 0), (.getfield 32, 0), (.iload_n 3, 0), (.aload_n 1, 0), (.iload_n 3, 0)] (pc' := 73) (lv' := [(0, .ref 39), (1, .ref v1), (2, .ref 10), (3, .int v3)]) (st' := [.int v3, .ref v1, .int v3, .ref 50]) (σ' := (fcP σ 40 (v3 + (1 : Int32)) ((fcG σ 40 v3) * (σ.1 39 5)))) (by decide +kernel) rfl rfl rfl ?_
    refine fhW.callv hΓ mvX7_seenBy ml_9_64 (t := v1) (ci := 7) (av := [.int v3]) (rest := [.int v3, .ref 50]) (r := (some (.int (f_X7_seenBy v1 v3 (fcP σ 40 (v3 + (1 : Int32)) ((fcG σ 40 v3) * (σ.1 39 5))))))) (σ' := (fcP σ 40 (v3 + (1 : Int32)) ((fcG σ 40 v3) * (σ.1 39 5)))) (T_X7_seenBy (E := fhEn Γ) (d := fhD Γ - 1) hE (by omega) v1 v3 hv1 (fcP σ 40 (v3 + (1 : Int32)) ((fcG σ 40 v3) * (σ.1 39 5)))) (by omega) (by decide +kernel) rfl (fhiP_g hv1) rfl (Nat.le_of_ble_eq_true rfl) rfl ?_
    show fhW fhYF Γ 76 [(0, .ref 39), (1, .ref v1), (2, .ref 10), (3, .int v3)] [.int (f_X7_seenBy v1 v3 (fcP σ 40 (v3 + (1 : Int32)) ((fcG σ 40 v3) * (σ.1 39 5)))), .int v3, .ref 50] (fcP σ 40 (v3 + (1 : Int32)) ((fcG σ 40 v3) * (σ.1 39 5)))
    refine fhW.callv hΓ mvX2_put ml_9_56 (t := 50) (ci := 2) (av := [.int v3, .int (f_X7_seenBy v1 v3 (fcP σ 40 (v3 + (1 : Int32)) ((fcG σ 40 v3) * (σ.1 39 5))))]) (rest := []) (r := none) (σ' := (fcP (fcP σ 40 (v3 + (1 : Int32)) ((fcG σ 40 v3) * (σ.1 39 5))) 50 v3 (f_X7_seenBy v1 v3 (fcP σ 40 (v3 + (1 : Int32)) ((fcG σ 40 v3) * (σ.1 39 5)))))) (T_X2_put (E := fhEn Γ) (d := fhD Γ - 1) hE (by omega) 50 v3 (f_X7_seenBy v1 v3 (fcP σ 40 (v3 + (1 : Int32)) ((fcG σ 40 v3) * (σ.1 39 5)))) rfl (fcP σ 40 (v3 + (1 : Int32)) ((fcG σ 40 v3) * (σ.1 39 5)))) (by omega) (by decide +kernel) rfl rfl rfl (Nat.le_of_ble_eq_true rfl) rfl ?_
    show fhW fhYF Γ 79 [(0, .ref 39), (1, .ref v1), (2, .ref 10), (3, .int v3)] [] (fcP (fcP σ 40 (v3 + (1 : Int32)) ((fcG σ 40 v3) * (σ.1 39 5))) 50 v3 (f_X7_seenBy v1 v3 (fcP σ 40 (v3 + (1 : Int32)) ((fcG σ 40 v3) * (σ.1 39 5)))))
    refine fhW.blk fhPF fhLL hΓ [(.iinc 3 1, 1)] (pc' := 82) (lv' := [(3, .int (v3 + (1 : Int32))), (0, .ref 39), (1, .ref v1), (2, .ref 10)]) (st' := []) (σ' := (fcP (fcP σ 40 (v3 + (1 : Int32)) ((fcG σ 40 v3) * (σ.1 39 5))) 50 v3 (f_X7_seenBy v1 v3 (fcP σ 40 (v3 + (1 : Int32)) ((fcG σ 40 v3) * (σ.1 39 5)))))) (by decide +kernel) rfl rfl rfl ?_
    refine fhW.goto hΓ (off := (-47)) (tgt := 35) (by decide +kernel) ?_
    refine fhW.sub (lv' := [(0, .ref 39), (1, .ref v1), (2, .ref 10), (3, .int (v3 + (1 : Int32)))]) [1, 2, 3, 0] rfl ?_
    have e9 := Option.some.inj h
    subst e9
    exact hk
set_option maxRecDepth 100000 in
set_option maxHeartbeats 4000000 in
theorem L_X9_build_E {Γ : fhX} (hE : fhEok fhYF (fhEn Γ)) (hΓ : fhOk fhYF 9 cX9_build 4 none Γ) (hd : 6 ≤ fhD Γ) (v1 : Nat) (hv1 : fhiP v1 = true) (σ : fhM) (o : fhM) (h : f_X9_build v1 σ = some o) (hk : (fun o => fhRet Γ none o) o) : fhW fhYF Γ 0 [(0, .ref 39), (1, .ref v1), (2, .ref 10)] [] σ := by
  unfold f_X9_build at h
  refine fhW.blk fhPF fhLL hΓ [(.aload_n 0, 0), (.aload_n 1, 0), (.getfield 41, 0), (.putfield 47, 0), (.aload_n 0, 0), (.aload_n 1, 0)] (pc' := 10) (lv' := [(0, .ref 39), (1, .ref v1), (2, .ref 10)]) (st' := [.ref v1, .ref 39]) (σ' := (fhI σ 39 5 (σ.1 v1 9))) (by decide +kernel) rfl rfl (by rcases fhiP_or hv1 with rfl | rfl <;> rfl) ?_
  refine fhW.blk fhPF fhLL hΓ [(.getfield 48, 0), (.putfield 51, 0), (.aload_n 0, 0), (.aload_n 1, 0), (.getfield 52, 0), (.putfield 55, 0)] (pc' := 24) (lv' := [(0, .ref 39), (1, .ref v1), (2, .ref 10)]) (st' := []) (σ' := (fhI (fhI (fhI σ 39 5 (σ.1 v1 9)) 39 9 ((fhI σ 39 5 (σ.1 v1 9)).1 v1 10)) 39 10 ((fhI (fhI σ 39 5 (σ.1 v1 9)) 39 9 ((fhI σ 39 5 (σ.1 v1 9)).1 v1 10)).1 v1 12))) (by decide +kernel) rfl rfl (by rcases fhiP_or hv1 with rfl | rfl <;> rfl) ?_
  refine fhW.blk fhPF fhLL hΓ [(.aload_n 0, 0), (.getfield 14, 0), (.iconst 0, 0), (.iconst 1, 1)] (pc' := 30) (lv' := [(0, .ref 39), (1, .ref v1), (2, .ref 10)]) (st' := [.int (1 : Int32), .int (0 : Int32), .ref 40]) (σ' := (fhI (fhI (fhI σ 39 5 (σ.1 v1 9)) 39 9 ((fhI σ 39 5 (σ.1 v1 9)).1 v1 10)) 39 10 ((fhI (fhI σ 39 5 (σ.1 v1 9)) 39 9 ((fhI σ 39 5 (σ.1 v1 9)).1 v1 10)).1 v1 12))) (by decide +kernel) rfl rfl rfl ?_
  refine fhW.callv hΓ mvX2_put ml_9_56 (t := 40) (ci := 2) (av := [.int (0 : Int32), .int (1 : Int32)]) (rest := []) (r := none) (σ' := (fcP (fhI (fhI (fhI σ 39 5 (σ.1 v1 9)) 39 9 ((fhI σ 39 5 (σ.1 v1 9)).1 v1 10)) 39 10 ((fhI (fhI σ 39 5 (σ.1 v1 9)) 39 9 ((fhI σ 39 5 (σ.1 v1 9)).1 v1 10)).1 v1 12)) 40 (0 : Int32) (1 : Int32))) (T_X2_put (E := fhEn Γ) (d := fhD Γ - 1) hE (by omega) 40 (0 : Int32) (1 : Int32) rfl (fhI (fhI (fhI σ 39 5 (σ.1 v1 9)) 39 9 ((fhI σ 39 5 (σ.1 v1 9)).1 v1 10)) 39 10 ((fhI (fhI σ 39 5 (σ.1 v1 9)) 39 9 ((fhI σ 39 5 (σ.1 v1 9)).1 v1 10)).1 v1 12))) (by omega) (by decide +kernel) rfl rfl rfl (Nat.le_of_ble_eq_true rfl) rfl ?_
  show fhW fhYF Γ 33 [(0, .ref 39), (1, .ref v1), (2, .ref 10)] [] (fcP (fhI (fhI (fhI σ 39 5 (σ.1 v1 9)) 39 9 ((fhI σ 39 5 (σ.1 v1 9)).1 v1 10)) 39 10 ((fhI (fhI σ 39 5 (σ.1 v1 9)) 39 9 ((fhI σ 39 5 (σ.1 v1 9)).1 v1 10)).1 v1 12)) 40 (0 : Int32) (1 : Int32))
  refine fhW.blk fhPF fhLL hΓ [(.iconst 0, 0), (.istore_n 3, 0)] (pc' := 35) (lv' := [(3, .int (0 : Int32)), (0, .ref 39), (1, .ref v1), (2, .ref 10)]) (st' := []) (σ' := (fcP (fhI (fhI (fhI σ 39 5 (σ.1 v1 9)) 39 9 ((fhI σ 39 5 (σ.1 v1 9)).1 v1 10)) 39 10 ((fhI (fhI σ 39 5 (σ.1 v1 9)) 39 9 ((fhI σ 39 5 (σ.1 v1 9)).1 v1 10)).1 v1 12)) 40 (0 : Int32) (1 : Int32))) (by decide +kernel) rfl rfl rfl ?_
  refine fhW.sub (lv' := [(0, .ref 39), (1, .ref v1), (2, .ref 10), (3, .int (0 : Int32))]) [1, 2, 3, 0] rfl ?_
  exact fhlp_ok (W := (fun x => fhW fhYF Γ 35 [(0, .ref 39), (1, .ref v1), (2, .ref 10), (3, .int x.1)] [] x.2)) (B := (fun o => fhRet Γ none o)) (fun x o h hk => L_X9_build_35 hE hΓ hd v1 x.1 hv1 x.2 o h hk) ((0 : Int32), (fcP (fhI (fhI (fhI σ 39 5 (σ.1 v1 9)) 39 9 ((fhI σ 39 5 (σ.1 v1 9)).1 v1 10)) 39 10 ((fhI (fhI σ 39 5 (σ.1 v1 9)) 39 9 ((fhI σ 39 5 (σ.1 v1 9)).1 v1 10)).1 v1 12)) 40 (0 : Int32) (1 : Int32))) _ h hk
set_option maxRecDepth 100000 in
theorem T_X9_build {E : fhE} {d : Nat} (hE : fhEok fhYF E) (hd : 6 ≤ d) (v1 : Nat) (hv1 : fhiP v1 = true) (σ : fhM) {o : fhM} (h : f_X9_build v1 σ = some o) : fhC fhYF E d miX9_build [.ref 39, .ref v1, .ref 10] σ none o := by
  refine fhC.of (y := yX9_build) (cc := cX9_build) (nL := 4) (ret := none) 9 rfl (by decide +kernel) (Nat.le_of_ble_eq_true rfl) ?_
  intro Γ hΓ hR hD hEn
  subst hD; subst hEn
  exact L_X9_build_E hE hΓ hd v1 hv1 σ _ h hR
set_option maxRecDepth 100000 in
set_option maxHeartbeats 4000000 in
theorem L_X9_viewOf_E {Γ : fhX} (hE : fhEok fhYF (fhEn Γ)) (hΓ : fhOk fhYF 9 cX9_viewOf 3 (some .int) Γ) (hd : 1 ≤ fhD Γ) (v1 : Int32) (v2 : Int32)  (σ : fhM) (o : Int32) (h : f_X9_viewOf v1 v2 σ = o) (hk : (fun o => fhRet Γ (some (.int o)) σ) o) : fhW fhYF Γ 0 [(0, .ref 39), (1, .int v1), (2, .int v2)] [] σ := by
  unfold f_X9_viewOf at h
  refine fhW.blk fhPF fhLL hΓ [(.aload_n 0, 0), (.getfield 23, 0), (.iload_n 1, 0), (.iconst 5, 5), (.imul, 0), (.iload_n 2, 0), (.iadd, 0)] (pc' := 9) (lv' := [(0, .ref 39), (1, .int v1), (2, .int v2)]) (st' := [.int ((v1 * (5 : Int32)) + v2), .ref 44]) (σ' := σ) (by decide +kernel) rfl rfl rfl ?_
  refine fhW.callv hΓ mvX2_get ml_9_60 (t := 44) (ci := 2) (av := [.int ((v1 * (5 : Int32)) + v2)]) (rest := []) (r := (some (.int (fcG σ 44 ((v1 * (5 : Int32)) + v2))))) (σ' := σ) (T_X2_get (E := fhEn Γ) (d := fhD Γ - 1) hE (by omega) 44 ((v1 * (5 : Int32)) + v2) rfl σ) (by omega) (by decide +kernel) rfl rfl rfl (Nat.le_of_ble_eq_true rfl) rfl ?_
  show fhW fhYF Γ 12 [(0, .ref 39), (1, .int v1), (2, .int v2)] [.int (fcG σ 44 ((v1 * (5 : Int32)) + v2))] σ
  subst h
  exact fhW.iret hΓ (by decide +kernel) hk
set_option maxRecDepth 100000 in
theorem T_X9_viewOf {E : fhE} {d : Nat} (hE : fhEok fhYF E) (hd : 1 ≤ d) (v1 : Int32) (v2 : Int32)  (σ : fhM) : fhC fhYF E d miX9_viewOf [.ref 39, .int v1, .int v2] σ (some (.int (f_X9_viewOf v1 v2 σ))) σ := by
  refine fhC.of (y := yX9_viewOf) (cc := cX9_viewOf) (nL := 3) (ret := (some .int)) 9 rfl (by decide +kernel) (Nat.le_of_ble_eq_true rfl) ?_
  intro Γ hΓ hR hD hEn
  subst hD; subst hEn
  exact L_X9_viewOf_E hE hΓ hd v1 v2  σ _ rfl hR

