set_option maxRecDepth 100000 in
set_option maxHeartbeats 4000000 in
theorem L_X8_advance_E {Γ : fhX} (hE : fhEok fhYF (fhEn Γ)) (hΓ : fhOk fhYF 8 cX8_advance 2 none Γ) (hd : 1 ≤ fhD Γ)   (σ : fhM) (o : fhM) (h : f_X8_advance σ = o) (hk : (fun o => fhRet Γ none o) o) : fhW fhYF Γ 0 [(0, .ref 3)] [] σ := by
  unfold f_X8_advance at h
  refine fhW.blk fhPF fhLL hΓ [(.aload_n 0, 0), (.getfield 24, 0)] (pc' := 4) (lv' := [(0, .ref 3)]) (st' := [.int (σ.1 3 9)]) (σ' := σ) (by decide +kernel) rfl rfl rfl ?_
  refine fhW.z_eq hΓ (tgt := 8) (show fhbk _ _ (.ifCond .eq (4)) _ = true by decide +kernel) (fun hc => ?_) (fun hc => ?_)
  · rw [if_pos hc] at h
    refine fhW.blk fhPF fhLL hΓ [(.aload_n 0, 0), (.getfield 33, 0), (.aload_n 0, 0), (.getfield 30, 0)] (pc' := 16) (lv' := [(0, .ref 3)]) (st' := [.int (σ.1 3 1), .int (σ.1 3 2)]) (σ' := σ) (by decide +kernel) rfl rfl rfl ?_
    refine fhW.i_lt hΓ (tgt := 41) (show fhbk _ _ (.if_icmp .lt (25)) _ = true by decide +kernel) (fun hc => ?_) (fun hc => ?_)
    · rw [if_pos hc] at h
      refine fhW.blk fhPF fhLL hΓ [(.iconst 5, 5), (.aload_n 0, 0), (.getfield 33, 0), (.imul, 0), (.istore_n 1, 0), (.aload_n 0, 0), (.aload_n 0, 0), (.getfield 16, 0), (.iload_n 1, 0)] (pc' := 54) (lv' := [(1, .int ((5 : Int32) * (σ.1 3 2))), (0, .ref 3)]) (st' := [.int ((5 : Int32) * (σ.1 3 2)), .ref 4, .ref 3]) (σ' := σ) (by decide +kernel) rfl rfl rfl ?_
      refine fhW.callv hΓ mvX2_get ml_8_36 (t := 4) (ci := 2) (av := [.int ((5 : Int32) * (σ.1 3 2))]) (rest := [.ref 3]) (r := (some (.int (fcG σ 4 ((5 : Int32) * (σ.1 3 2)))))) (σ' := σ) (T_X2_get (E := fhEn Γ) (d := fhD Γ - 1) hE (by omega) 4 ((5 : Int32) * (σ.1 3 2)) rfl σ) (by omega) (by decide +kernel) rfl rfl rfl (Nat.le_of_ble_eq_true rfl) rfl ?_
      show fhW fhYF Γ 57 [(1, .int ((5 : Int32) * (σ.1 3 2))), (0, .ref 3)] [.int (fcG σ 4 ((5 : Int32) * (σ.1 3 2))), .ref 3] σ
      refine fhW.blk fhPF fhLL hΓ [(.putfield 78, 0), (.aload_n 0, 0), (.aload_n 0, 0), (.getfield 16, 0), (.iload_n 1, 0), (.iconst 1, 1), (.iadd, 0)] (pc' := 68) (lv' := [(1, .int ((5 : Int32) * (σ.1 3 2))), (0, .ref 3)]) (st' := [.int (((5 : Int32) * (σ.1 3 2)) + (1 : Int32)), .ref 4, .ref 3]) (σ' := (fhI σ 3 8 (fcG σ 4 ((5 : Int32) * (σ.1 3 2))))) (by decide +kernel) rfl rfl rfl ?_
      refine fhW.callv hΓ mvX2_get ml_8_36 (t := 4) (ci := 2) (av := [.int (((5 : Int32) * (σ.1 3 2)) + (1 : Int32))]) (rest := [.ref 3]) (r := (some (.int (fcG (fhI σ 3 8 (fcG σ 4 ((5 : Int32) * (σ.1 3 2)))) 4 (((5 : Int32) * (σ.1 3 2)) + (1 : Int32)))))) (σ' := (fhI σ 3 8 (fcG σ 4 ((5 : Int32) * (σ.1 3 2))))) (T_X2_get (E := fhEn Γ) (d := fhD Γ - 1) hE (by omega) 4 (((5 : Int32) * (σ.1 3 2)) + (1 : Int32)) rfl (fhI σ 3 8 (fcG σ 4 ((5 : Int32) * (σ.1 3 2))))) (by omega) (by decide +kernel) rfl rfl rfl (Nat.le_of_ble_eq_true rfl) rfl ?_
      show fhW fhYF Γ 71 [(1, .int ((5 : Int32) * (σ.1 3 2))), (0, .ref 3)] [.int (fcG (fhI σ 3 8 (fcG σ 4 ((5 : Int32) * (σ.1 3 2)))) 4 (((5 : Int32) * (σ.1 3 2)) + (1 : Int32))), .ref 3] (fhI σ 3 8 (fcG σ 4 ((5 : Int32) * (σ.1 3 2))))
      refine fhW.blk fhPF fhLL hΓ [(.putfield 84, 0), (.aload_n 0, 0), (.aload_n 0, 0), (.getfield 16, 0), (.iload_n 1, 0), (.iconst 2, 2), (.iadd, 0)] (pc' := 82) (lv' := [(1, .int ((5 : Int32) * (σ.1 3 2))), (0, .ref 3)]) (st' := [.int (((5 : Int32) * (σ.1 3 2)) + (2 : Int32)), .ref 4, .ref 3]) (σ' := (fhI (fhI σ 3 8 (fcG σ 4 ((5 : Int32) * (σ.1 3 2)))) 3 5 (fcG (fhI σ 3 8 (fcG σ 4 ((5 : Int32) * (σ.1 3 2)))) 4 (((5 : Int32) * (σ.1 3 2)) + (1 : Int32))))) (by decide +kernel) rfl rfl rfl ?_
      refine fhW.callv hΓ mvX2_get ml_8_36 (t := 4) (ci := 2) (av := [.int (((5 : Int32) * (σ.1 3 2)) + (2 : Int32))]) (rest := [.ref 3]) (r := (some (.int (fcG (fhI (fhI σ 3 8 (fcG σ 4 ((5 : Int32) * (σ.1 3 2)))) 3 5 (fcG (fhI σ 3 8 (fcG σ 4 ((5 : Int32) * (σ.1 3 2)))) 4 (((5 : Int32) * (σ.1 3 2)) + (1 : Int32)))) 4 (((5 : Int32) * (σ.1 3 2)) + (2 : Int32)))))) (σ' := (fhI (fhI σ 3 8 (fcG σ 4 ((5 : Int32) * (σ.1 3 2)))) 3 5 (fcG (fhI σ 3 8 (fcG σ 4 ((5 : Int32) * (σ.1 3 2)))) 4 (((5 : Int32) * (σ.1 3 2)) + (1 : Int32))))) (T_X2_get (E := fhEn Γ) (d := fhD Γ - 1) hE (by omega) 4 (((5 : Int32) * (σ.1 3 2)) + (2 : Int32)) rfl (fhI (fhI σ 3 8 (fcG σ 4 ((5 : Int32) * (σ.1 3 2)))) 3 5 (fcG (fhI σ 3 8 (fcG σ 4 ((5 : Int32) * (σ.1 3 2)))) 4 (((5 : Int32) * (σ.1 3 2)) + (1 : Int32))))) (by omega) (by decide +kernel) rfl rfl rfl (Nat.le_of_ble_eq_true rfl) rfl ?_
      show fhW fhYF Γ 85 [(1, .int ((5 : Int32) * (σ.1 3 2))), (0, .ref 3)] [.int (fcG (fhI (fhI σ 3 8 (fcG σ 4 ((5 : Int32) * (σ.1 3 2)))) 3 5 (fcG (fhI σ 3 8 (fcG σ 4 ((5 : Int32) * (σ.1 3 2)))) 4 (((5 : Int32) * (σ.1 3 2)) + (1 : Int32)))) 4 (((5 : Int32) * (σ.1 3 2)) + (2 : Int32))), .ref 3] (fhI (fhI σ 3 8 (fcG σ 4 ((5 : Int32) * (σ.1 3 2)))) 3 5 (fcG (fhI σ 3 8 (fcG σ 4 ((5 : Int32) * (σ.1 3 2)))) 4 (((5 : Int32) * (σ.1 3 2)) + (1 : Int32))))
      refine fhW.blk fhPF fhLL hΓ [(.putfield 75, 0), (.aload_n 0, 0), (.aload_n 0, 0), (.getfield 16, 0), (.iload_n 1, 0), (.iconst 3, 3), (.iadd, 0)] (pc' := 96) (lv' := [(1, .int ((5 : Int32) * (σ.1 3 2))), (0, .ref 3)]) (st' := [.int (((5 : Int32) * (σ.1 3 2)) + (3 : Int32)), .ref 4, .ref 3]) (σ' := (fhI (fhI (fhI σ 3 8 (fcG σ 4 ((5 : Int32) * (σ.1 3 2)))) 3 5 (fcG (fhI σ 3 8 (fcG σ 4 ((5 : Int32) * (σ.1 3 2)))) 4 (((5 : Int32) * (σ.1 3 2)) + (1 : Int32)))) 3 4 (fcG (fhI (fhI σ 3 8 (fcG σ 4 ((5 : Int32) * (σ.1 3 2)))) 3 5 (fcG (fhI σ 3 8 (fcG σ 4 ((5 : Int32) * (σ.1 3 2)))) 4 (((5 : Int32) * (σ.1 3 2)) + (1 : Int32)))) 4 (((5 : Int32) * (σ.1 3 2)) + (2 : Int32))))) (by decide +kernel) rfl rfl rfl ?_
      refine fhW.callv hΓ mvX2_get ml_8_36 (t := 4) (ci := 2) (av := [.int (((5 : Int32) * (σ.1 3 2)) + (3 : Int32))]) (rest := [.ref 3]) (r := (some (.int (fcG (fhI (fhI (fhI σ 3 8 (fcG σ 4 ((5 : Int32) * (σ.1 3 2)))) 3 5 (fcG (fhI σ 3 8 (fcG σ 4 ((5 : Int32) * (σ.1 3 2)))) 4 (((5 : Int32) * (σ.1 3 2)) + (1 : Int32)))) 3 4 (fcG (fhI (fhI σ 3 8 (fcG σ 4 ((5 : Int32) * (σ.1 3 2)))) 3 5 (fcG (fhI σ 3 8 (fcG σ 4 ((5 : Int32) * (σ.1 3 2)))) 4 (((5 : Int32) * (σ.1 3 2)) + (1 : Int32)))) 4 (((5 : Int32) * (σ.1 3 2)) + (2 : Int32)))) 4 (((5 : Int32) * (σ.1 3 2)) + (3 : Int32)))))) (σ' := (fhI (fhI (fhI σ 3 8 (fcG σ 4 ((5 : Int32) * (σ.1 3 2)))) 3 5 (fcG (fhI σ 3 8 (fcG σ 4 ((5 : Int32) * (σ.1 3 2)))) 4 (((5 : Int32) * (σ.1 3 2)) + (1 : Int32)))) 3 4 (fcG (fhI (fhI σ 3 8 (fcG σ 4 ((5 : Int32) * (σ.1 3 2)))) 3 5 (fcG (fhI σ 3 8 (fcG σ 4 ((5 : Int32) * (σ.1 3 2)))) 4 (((5 : Int32) * (σ.1 3 2)) + (1 : Int32)))) 4 (((5 : Int32) * (σ.1 3 2)) + (2 : Int32))))) (T_X2_get (E := fhEn Γ) (d := fhD Γ - 1) hE (by omega) 4 (((5 : Int32) * (σ.1 3 2)) + (3 : Int32)) rfl (fhI (fhI (fhI σ 3 8 (fcG σ 4 ((5 : Int32) * (σ.1 3 2)))) 3 5 (fcG (fhI σ 3 8 (fcG σ 4 ((5 : Int32) * (σ.1 3 2)))) 4 (((5 : Int32) * (σ.1 3 2)) + (1 : Int32)))) 3 4 (fcG (fhI (fhI σ 3 8 (fcG σ 4 ((5 : Int32) * (σ.1 3 2)))) 3 5 (fcG (fhI σ 3 8 (fcG σ 4 ((5 : Int32) * (σ.1 3 2)))) 4 (((5 : Int32) * (σ.1 3 2)) + (1 : Int32)))) 4 (((5 : Int32) * (σ.1 3 2)) + (2 : Int32))))) (by omega) (by decide +kernel) rfl rfl rfl (Nat.le_of_ble_eq_true rfl) rfl ?_
      show fhW fhYF Γ 99 [(1, .int ((5 : Int32) * (σ.1 3 2))), (0, .ref 3)] [.int (fcG (fhI (fhI (fhI σ 3 8 (fcG σ 4 ((5 : Int32) * (σ.1 3 2)))) 3 5 (fcG (fhI σ 3 8 (fcG σ 4 ((5 : Int32) * (σ.1 3 2)))) 4 (((5 : Int32) * (σ.1 3 2)) + (1 : Int32)))) 3 4 (fcG (fhI (fhI σ 3 8 (fcG σ 4 ((5 : Int32) * (σ.1 3 2)))) 3 5 (fcG (fhI σ 3 8 (fcG σ 4 ((5 : Int32) * (σ.1 3 2)))) 4 (((5 : Int32) * (σ.1 3 2)) + (1 : Int32)))) 4 (((5 : Int32) * (σ.1 3 2)) + (2 : Int32)))) 4 (((5 : Int32) * (σ.1 3 2)) + (3 : Int32))), .ref 3] (fhI (fhI (fhI σ 3 8 (fcG σ 4 ((5 : Int32) * (σ.1 3 2)))) 3 5 (fcG (fhI σ 3 8 (fcG σ 4 ((5 : Int32) * (σ.1 3 2)))) 4 (((5 : Int32) * (σ.1 3 2)) + (1 : Int32)))) 3 4 (fcG (fhI (fhI σ 3 8 (fcG σ 4 ((5 : Int32) * (σ.1 3 2)))) 3 5 (fcG (fhI σ 3 8 (fcG σ 4 ((5 : Int32) * (σ.1 3 2)))) 4 (((5 : Int32) * (σ.1 3 2)) + (1 : Int32)))) 4 (((5 : Int32) * (σ.1 3 2)) + (2 : Int32))))
      refine fhW.blk fhPF fhLL hΓ [(.putfield 87, 0), (.aload_n 0, 0), (.aload_n 0, 0), (.getfield 16, 0), (.iload_n 1, 0), (.iconst 4, 4), (.iadd, 0)] (pc' := 110) (lv' := [(1, .int ((5 : Int32) * (σ.1 3 2))), (0, .ref 3)]) (st' := [.int (((5 : Int32) * (σ.1 3 2)) + (4 : Int32)), .ref 4, .ref 3]) (σ' := (fhI (fhI (fhI (fhI σ 3 8 (fcG σ 4 ((5 : Int32) * (σ.1 3 2)))) 3 5 (fcG (fhI σ 3 8 (fcG σ 4 ((5 : Int32) * (σ.1 3 2)))) 4 (((5 : Int32) * (σ.1 3 2)) + (1 : Int32)))) 3 4 (fcG (fhI (fhI σ 3 8 (fcG σ 4 ((5 : Int32) * (σ.1 3 2)))) 3 5 (fcG (fhI σ 3 8 (fcG σ 4 ((5 : Int32) * (σ.1 3 2)))) 4 (((5 : Int32) * (σ.1 3 2)) + (1 : Int32)))) 4 (((5 : Int32) * (σ.1 3 2)) + (2 : Int32)))) 3 6 (fcG (fhI (fhI (fhI σ 3 8 (fcG σ 4 ((5 : Int32) * (σ.1 3 2)))) 3 5 (fcG (fhI σ 3 8 (fcG σ 4 ((5 : Int32) * (σ.1 3 2)))) 4 (((5 : Int32) * (σ.1 3 2)) + (1 : Int32)))) 3 4 (fcG (fhI (fhI σ 3 8 (fcG σ 4 ((5 : Int32) * (σ.1 3 2)))) 3 5 (fcG (fhI σ 3 8 (fcG σ 4 ((5 : Int32) * (σ.1 3 2)))) 4 (((5 : Int32) * (σ.1 3 2)) + (1 : Int32)))) 4 (((5 : Int32) * (σ.1 3 2)) + (2 : Int32)))) 4 (((5 : Int32) * (σ.1 3 2)) + (3 : Int32))))) (by decide +kernel) rfl rfl rfl ?_
      refine fhW.callv hΓ mvX2_get ml_8_36 (t := 4) (ci := 2) (av := [.int (((5 : Int32) * (σ.1 3 2)) + (4 : Int32))]) (rest := [.ref 3]) (r := (some (.int (fcG (fhI (fhI (fhI (fhI σ 3 8 (fcG σ 4 ((5 : Int32) * (σ.1 3 2)))) 3 5 (fcG (fhI σ 3 8 (fcG σ 4 ((5 : Int32) * (σ.1 3 2)))) 4 (((5 : Int32) * (σ.1 3 2)) + (1 : Int32)))) 3 4 (fcG (fhI (fhI σ 3 8 (fcG σ 4 ((5 : Int32) * (σ.1 3 2)))) 3 5 (fcG (fhI σ 3 8 (fcG σ 4 ((5 : Int32) * (σ.1 3 2)))) 4 (((5 : Int32) * (σ.1 3 2)) + (1 : Int32)))) 4 (((5 : Int32) * (σ.1 3 2)) + (2 : Int32)))) 3 6 (fcG (fhI (fhI (fhI σ 3 8 (fcG σ 4 ((5 : Int32) * (σ.1 3 2)))) 3 5 (fcG (fhI σ 3 8 (fcG σ 4 ((5 : Int32) * (σ.1 3 2)))) 4 (((5 : Int32) * (σ.1 3 2)) + (1 : Int32)))) 3 4 (fcG (fhI (fhI σ 3 8 (fcG σ 4 ((5 : Int32) * (σ.1 3 2)))) 3 5 (fcG (fhI σ 3 8 (fcG σ 4 ((5 : Int32) * (σ.1 3 2)))) 4 (((5 : Int32) * (σ.1 3 2)) + (1 : Int32)))) 4 (((5 : Int32) * (σ.1 3 2)) + (2 : Int32)))) 4 (((5 : Int32) * (σ.1 3 2)) + (3 : Int32)))) 4 (((5 : Int32) * (σ.1 3 2)) + (4 : Int32)))))) (σ' := (fhI (fhI (fhI (fhI σ 3 8 (fcG σ 4 ((5 : Int32) * (σ.1 3 2)))) 3 5 (fcG (fhI σ 3 8 (fcG σ 4 ((5 : Int32) * (σ.1 3 2)))) 4 (((5 : Int32) * (σ.1 3 2)) + (1 : Int32)))) 3 4 (fcG (fhI (fhI σ 3 8 (fcG σ 4 ((5 : Int32) * (σ.1 3 2)))) 3 5 (fcG (fhI σ 3 8 (fcG σ 4 ((5 : Int32) * (σ.1 3 2)))) 4 (((5 : Int32) * (σ.1 3 2)) + (1 : Int32)))) 4 (((5 : Int32) * (σ.1 3 2)) + (2 : Int32)))) 3 6 (fcG (fhI (fhI (fhI σ 3 8 (fcG σ 4 ((5 : Int32) * (σ.1 3 2)))) 3 5 (fcG (fhI σ 3 8 (fcG σ 4 ((5 : Int32) * (σ.1 3 2)))) 4 (((5 : Int32) * (σ.1 3 2)) + (1 : Int32)))) 3 4 (fcG (fhI (fhI σ 3 8 (fcG σ 4 ((5 : Int32) * (σ.1 3 2)))) 3 5 (fcG (fhI σ 3 8 (fcG σ 4 ((5 : Int32) * (σ.1 3 2)))) 4 (((5 : Int32) * (σ.1 3 2)) + (1 : Int32)))) 4 (((5 : Int32) * (σ.1 3 2)) + (2 : Int32)))) 4 (((5 : Int32) * (σ.1 3 2)) + (3 : Int32))))) (T_X2_get (E := fhEn Γ) (d := fhD Γ - 1) hE (by omega) 4 (((5 : Int32) * (σ.1 3 2)) + (4 : Int32)) rfl (fhI (fhI (fhI (fhI σ 3 8 (fcG σ 4 ((5 : Int32) * (σ.1 3 2)))) 3 5 (fcG (fhI σ 3 8 (fcG σ 4 ((5 : Int32) * (σ.1 3 2)))) 4 (((5 : Int32) * (σ.1 3 2)) + (1 : Int32)))) 3 4 (fcG (fhI (fhI σ 3 8 (fcG σ 4 ((5 : Int32) * (σ.1 3 2)))) 3 5 (fcG (fhI σ 3 8 (fcG σ 4 ((5 : Int32) * (σ.1 3 2)))) 4 (((5 : Int32) * (σ.1 3 2)) + (1 : Int32)))) 4 (((5 : Int32) * (σ.1 3 2)) + (2 : Int32)))) 3 6 (fcG (fhI (fhI (fhI σ 3 8 (fcG σ 4 ((5 : Int32) * (σ.1 3 2)))) 3 5 (fcG (fhI σ 3 8 (fcG σ 4 ((5 : Int32) * (σ.1 3 2)))) 4 (((5 : Int32) * (σ.1 3 2)) + (1 : Int32)))) 3 4 (fcG (fhI (fhI σ 3 8 (fcG σ 4 ((5 : Int32) * (σ.1 3 2)))) 3 5 (fcG (fhI σ 3 8 (fcG σ 4 ((5 : Int32) * (σ.1 3 2)))) 4 (((5 : Int32) * (σ.1 3 2)) + (1 : Int32)))) 4 (((5 : Int32) * (σ.1 3 2)) + (2 : Int32)))) 4 (((5 : Int32) * (σ.1 3 2)) + (3 : Int32))))) (by omega) (by decide +kernel) rfl rfl rfl (Nat.le_of_ble_eq_true rfl) rfl ?_
      show fhW fhYF Γ 113 [(1, .int ((5 : Int32) * (σ.1 3 2))), (0, .ref 3)] [.int (fcG (fhI (fhI (fhI (fhI σ 3 8 (fcG σ 4 ((5 : Int32) * (σ.1 3 2)))) 3 5 (fcG (fhI σ 3 8 (fcG σ 4 ((5 : Int32) * (σ.1 3 2)))) 4 (((5 : Int32) * (σ.1 3 2)) + (1 : Int32)))) 3 4 (fcG (fhI (fhI σ 3 8 (fcG σ 4 ((5 : Int32) * (σ.1 3 2)))) 3 5 (fcG (fhI σ 3 8 (fcG σ 4 ((5 : Int32) * (σ.1 3 2)))) 4 (((5 : Int32) * (σ.1 3 2)) + (1 : Int32)))) 4 (((5 : Int32) * (σ.1 3 2)) + (2 : Int32)))) 3 6 (fcG (fhI (fhI (fhI σ 3 8 (fcG σ 4 ((5 : Int32) * (σ.1 3 2)))) 3 5 (fcG (fhI σ 3 8 (fcG σ 4 ((5 : Int32) * (σ.1 3 2)))) 4 (((5 : Int32) * (σ.1 3 2)) + (1 : Int32)))) 3 4 (fcG (fhI (fhI σ 3 8 (fcG σ 4 ((5 : Int32) * (σ.1 3 2)))) 3 5 (fcG (fhI σ 3 8 (fcG σ 4 ((5 : Int32) * (σ.1 3 2)))) 4 (((5 : Int32) * (σ.1 3 2)) + (1 : Int32)))) 4 (((5 : Int32) * (σ.1 3 2)) + (2 : Int32)))) 4 (((5 : Int32) * (σ.1 3 2)) + (3 : Int32)))) 4 (((5 : Int32) * (σ.1 3 2)) + (4 : Int32))), .ref 3] (fhI (fhI (fhI (fhI σ 3 8 (fcG σ 4 ((5 : Int32) * (σ.1 3 2)))) 3 5 (fcG (fhI σ 3 8 (fcG σ 4 ((5 : Int32) * (σ.1 3 2)))) 4 (((5 : Int32) * (σ.1 3 2)) + (1 : Int32)))) 3 4 (fcG (fhI (fhI σ 3 8 (fcG σ 4 ((5 : Int32) * (σ.1 3 2)))) 3 5 (fcG (fhI σ 3 8 (fcG σ 4 ((5 : Int32) * (σ.1 3 2)))) 4 (((5 : Int32) * (σ.1 3 2)) + (1 : Int32)))) 4 (((5 : Int32) * (σ.1 3 2)) + (2 : Int32)))) 3 6 (fcG (fhI (fhI (fhI σ 3 8 (fcG σ 4 ((5 : Int32) * (σ.1 3 2)))) 3 5 (fcG (fhI σ 3 8 (fcG σ 4 ((5 : Int32) * (σ.1 3 2)))) 4 (((5 : Int32) * (σ.1 3 2)) + (1 : Int32)))) 3 4 (fcG (fhI (fhI σ 3 8 (fcG σ 4 ((5 : Int32) * (σ.1 3 2)))) 3 5 (fcG (fhI σ 3 8 (fcG σ 4 ((5 : Int32) * (σ.1 3 2)))) 4 (((5 : Int32) * (σ.1 3 2)) + (1 : Int32)))) 4 (((5 : Int32) * (σ.1 3 2)) + (2 : Int32)))) 4 (((5 : Int32) * (σ.1 3 2)) + (3 : Int32))))
      refine fhW.blk fhPF fhLL hΓ [(.putfield 90, 0), (.aload_n 0, 0), (.dup, 0), (.getfield 33, 0), (.iconst 1, 1), (.iadd, 0), (.putfield 33, 0)] (pc' := 126) (lv' := [(1, .int ((5 : Int32) * (σ.1 3 2))), (0, .ref 3)]) (st' := []) (σ' := (fhI (fhI (fhI (fhI (fhI (fhI σ 3 8 (fcG σ 4 ((5 : Int32) * (σ.1 3 2)))) 3 5 (fcG (fhI σ 3 8 (fcG σ 4 ((5 : Int32) * (σ.1 3 2)))) 4 (((5 : Int32) * (σ.1 3 2)) + (1 : Int32)))) 3 4 (fcG (fhI (fhI σ 3 8 (fcG σ 4 ((5 : Int32) * (σ.1 3 2)))) 3 5 (fcG (fhI σ 3 8 (fcG σ 4 ((5 : Int32) * (σ.1 3 2)))) 4 (((5 : Int32) * (σ.1 3 2)) + (1 : Int32)))) 4 (((5 : Int32) * (σ.1 3 2)) + (2 : Int32)))) 3 6 (fcG (fhI (fhI (fhI σ 3 8 (fcG σ 4 ((5 : Int32) * (σ.1 3 2)))) 3 5 (fcG (fhI σ 3 8 (fcG σ 4 ((5 : Int32) * (σ.1 3 2)))) 4 (((5 : Int32) * (σ.1 3 2)) + (1 : Int32)))) 3 4 (fcG (fhI (fhI σ 3 8 (fcG σ 4 ((5 : Int32) * (σ.1 3 2)))) 3 5 (fcG (fhI σ 3 8 (fcG σ 4 ((5 : Int32) * (σ.1 3 2)))) 4 (((5 : Int32) * (σ.1 3 2)) + (1 : Int32)))) 4 (((5 : Int32) * (σ.1 3 2)) + (2 : Int32)))) 4 (((5 : Int32) * (σ.1 3 2)) + (3 : Int32)))) 3 7 (fcG (fhI (fhI (fhI (fhI σ 3 8 (fcG σ 4 ((5 : Int32) * (σ.1 3 2)))) 3 5 (fcG (fhI σ 3 8 (fcG σ 4 ((5 : Int32) * (σ.1 3 2)))) 4 (((5 : Int32) * (σ.1 3 2)) + (1 : Int32)))) 3 4 (fcG (fhI (fhI σ 3 8 (fcG σ 4 ((5 : Int32) * (σ.1 3 2)))) 3 5 (fcG (fhI σ 3 8 (fcG σ 4 ((5 : Int32) * (σ.1 3 2)))) 4 (((5 : Int32) * (σ.1 3 2)) + (1 : Int32)))) 4 (((5 : Int32) * (σ.1 3 2)) + (2 : Int32)))) 3 6 (fcG (fhI (fhI (fhI σ 3 8 (fcG σ 4 ((5 : Int32) * (σ.1 3 2)))) 3 5 (fcG (fhI σ 3 8 (fcG σ 4 ((5 : Int32) * (σ.1 3 2)))) 4 (((5 : Int32) * (σ.1 3 2)) + (1 : Int32)))) 3 4 (fcG (fhI (fhI σ 3 8 (fcG σ 4 ((5 : Int32) * (σ.1 3 2)))) 3 5 (fcG (fhI σ 3 8 (fcG σ 4 ((5 : Int32) * (σ.1 3 2)))) 4 (((5 : Int32) * (σ.1 3 2)) + (1 : Int32)))) 4 (((5 : Int32) * (σ.1 3 2)) + (2 : Int32)))) 4 (((5 : Int32) * (σ.1 3 2)) + (3 : Int32)))) 4 (((5 : Int32) * (σ.1 3 2)) + (4 : Int32)))) 3 2 ((σ.1 3 2) + (1 : Int32)))) (by decide +kernel) rfl rfl rfl ?_
      subst h
      exact fhW.vret hΓ (by decide +kernel) hk
    · rw [if_neg hc] at h
      refine fhW.blk fhPF fhLL hΓ [(.aload_n 0, 0), (.iconst 0, 0), (.putfield 75, 0), (.aload_n 0, 0), (.aload_n 0, 0), (.getfield 20, 0), (.putfield 78, 0), (.aload_n 0, 0), (.aload_n 0, 0), (.getfield 20, 0), (.putfield 84, 0)] (pc' := 40) (lv' := [(0, .ref 3)]) (st' := []) (σ' := (fhI (fhI (fhI σ 3 4 (0 : Int32)) 3 8 (σ.1 3 3)) 3 5 (σ.1 3 3))) (by decide +kernel) rfl rfl rfl ?_
      subst h
      exact fhW.vret hΓ (by decide +kernel) hk
  · rw [if_neg hc] at h
    subst h
    exact fhW.vret hΓ (by decide +kernel) hk
set_option maxRecDepth 100000 in
theorem T_X8_advance {E : fhE} {d : Nat} (hE : fhEok fhYF E) (hd : 1 ≤ d)   (σ : fhM) : fhC fhYF E d miX8_advance [.ref 3] σ none (f_X8_advance σ) := by
  refine fhC.of (y := yX8_advance) (cc := cX8_advance) (nL := 2) (ret := none) 8 rfl (by decide +kernel) (Nat.le_of_ble_eq_true rfl) ?_
  intro Γ hΓ hR hD hEn
  subst hD; subst hEn
  exact L_X8_advance_E hE hΓ hd   σ _ rfl hR
set_option maxRecDepth 100000 in
set_option maxHeartbeats 4000000 in
theorem L_X8_open_97 {Γ : fhX} (hE : fhEok fhYF (fhEn Γ)) (hΓ : fhOk fhYF 8 cX8_open 6 none Γ) (hd : 8 ≤ fhD Γ)   (σ : fhM) (o : fhM) (h : f_X8_open_97 σ = some o) (hk : (fun o => fhRet Γ none o) o) : fhW fhYF Γ 97 [(0, .ref 3)] [] σ := by
  unfold f_X8_open_97 at h
  refine fhW.blk fhPF fhLL hΓ [(.aload_n 0, 0)] (pc' := 98) (lv' := [(0, .ref 3)]) (st' := [.ref 3]) (σ' := σ) (by decide +kernel) rfl rfl rfl ?_
  refine fhW.callv hΓ mvX8_advance ml_8_44 (t := 3) (ci := 8) (av := []) (rest := []) (r := none) (σ' := (f_X8_advance σ)) (T_X8_advance (E := fhEn Γ) (d := fhD Γ - 1) hE (by omega) σ) (by omega) (by decide +kernel) rfl rfl rfl (Nat.le_of_ble_eq_true rfl) rfl ?_
  show fhW fhYF Γ 101 [(0, .ref 3)] [] (f_X8_advance σ)
  obtain ⟨q1, e1, h⟩ := fhlet_elim h
  rw [← e1]
  have e9 := Option.some.inj h
  subst e9
  exact fhW.vret hΓ (by decide +kernel) hk
set_option maxRecDepth 100000 in
set_option maxHeartbeats 4000000 in
theorem L_X8_open_90 {Γ : fhX} (hE : fhEok fhYF (fhEn Γ)) (hΓ : fhOk fhYF 8 cX8_open 6 none Γ) (hd : 8 ≤ fhD Γ) (v1 : Nat) (v4 : Int32) (s0 : Int32) (hv1 : fhiC v1 = true) (σ : fhM) (o : (Int32 × Int32 × fhM) ⊕ (fhM)) (h : f_X8_open_90 v1 v4 s0 σ = some o) (hk : (fhK (fun x => fhW fhYF Γ 30 [(0, .ref 3), (1, .ref v1), (3, .int x.1), (4, .int x.2.1)] [] x.2.2) (fun o => fhRet Γ none o)) o) : fhW fhYF Γ 90 [(0, .ref 3), (1, .ref v1), (4, .int v4)] [.int s0] σ := by
  unfold f_X8_open_90 at h
  refine fhW.blk fhPF fhLL hΓ [(.istore_n 3, 0), (.iinc 4 1, 1)] (pc' := 94) (lv' := [(4, .int (v4 + (1 : Int32))), (3, .int s0), (0, .ref 3), (1, .ref v1)]) (st' := []) (σ' := σ) (by decide +kernel) rfl rfl rfl ?_
  refine fhW.goto hΓ (off := (-64)) (tgt := 30) (by decide +kernel) ?_
  refine fhW.sub (lv' := [(0, .ref 3), (1, .ref v1), (3, .int s0), (4, .int (v4 + (1 : Int32)))]) [2, 3, 1, 0] rfl ?_
  have e9 := Option.some.inj h
  subst e9
  exact hk
set_option maxRecDepth 100000 in
set_option maxHeartbeats 4000000 in
theorem L_X8_open_71 {Γ : fhX} (hE : fhEok fhYF (fhEn Γ)) (hΓ : fhOk fhYF 8 cX8_open 6 none Γ) (hd : 8 ≤ fhD Γ) (v1 : Nat) (v3 : Int32) (v4 : Int32) (s0 : Int32) (hv1 : fhiC v1 = true) (σ : fhM) (o : (Int32 × Int32 × fhM) ⊕ (fhM)) (h : f_X8_open_71 v1 v3 v4 s0 σ = some o) (hk : (fhK (fun x => fhW fhYF Γ 30 [(0, .ref 3), (1, .ref v1), (3, .int x.1), (4, .int x.2.1)] [] x.2.2) (fun o => fhRet Γ none o)) o) : fhW fhYF Γ 71 [(0, .ref 3), (1, .ref v1), (3, .int v3), (4, .int v4)] [.int s0] σ := by
  unfold f_X8_open_71 at h
  refine fhW.blk fhPF fhLL hΓ [(.istore 5, 0), (.iload 5, 0)] (pc' := 75) (lv' := [(5, .int s0), (0, .ref 3), (1, .ref v1), (3, .int v3), (4, .int v4)]) (st' := [.int s0]) (σ' := σ) (by decide +kernel) rfl rfl rfl ?_
  refine fhW.z_eq hΓ (tgt := 84) (show fhbk _ _ (.ifCond .eq (9)) _ = true by decide +kernel) (fun hc => ?_) (fun hc => ?_)
  · rw [if_pos hc] at h
    refine fhW.blk fhPF fhLL hΓ [(.aload_n 0, 0), (.aload_n 1, 0), (.iload_n 3, 0)] (pc' := 87) (lv' := [(5, .int s0), (0, .ref 3), (1, .ref v1), (3, .int v3), (4, .int v4)]) (st' := [.int v3, .ref v1, .ref 3]) (σ' := σ) (by decide +kernel) rfl rfl rfl ?_
    obtain ⟨q2, hb1, h⟩ := Option.bind_eq_some_iff.mp h
    refine fhW.callv hΓ mvX8_cutPiece ml_8_40 (t := 3) (ci := 8) (av := [.ref v1, .int v3]) (rest := []) (r := (some (.int q2.1))) (σ' := q2.2) (T_X8_cutPiece (E := fhEn Γ) (d := fhD Γ - 1) hE (by omega) v1 v3 hv1 σ hb1) (by omega) (by decide +kernel) rfl rfl rfl (Nat.le_of_ble_eq_true rfl) rfl ?_
    show fhW fhYF Γ 90 [(5, .int s0), (0, .ref 3), (1, .ref v1), (3, .int v3), (4, .int v4)] [.int q2.1] q2.2
    refine fhW.sub (lv' := [(0, .ref 3), (1, .ref v1), (4, .int v4)]) [1, 2, 4] rfl ?_
    exact L_X8_open_90 hE hΓ hd v1 v4 q2.1 hv1 q2.2 _ h hk
  · rw [if_neg hc] at h
    refine fhW.blk fhPF fhLL hΓ [(.iload_n 3, 0), (.iconst 1, 1), (.iadd, 0)] (pc' := 81) (lv' := [(5, .int s0), (0, .ref 3), (1, .ref v1), (3, .int v3), (4, .int v4)]) (st' := [.int (v3 + (1 : Int32))]) (σ' := σ) (by decide +kernel) rfl rfl rfl ?_
    refine fhW.goto hΓ (off := 9) (tgt := 90) (by decide +kernel) ?_
    refine fhW.sub (lv' := [(0, .ref 3), (1, .ref v1), (4, .int v4)]) [1, 2, 4] rfl ?_
    exact L_X8_open_90 hE hΓ hd v1 v4 (v3 + (1 : Int32)) hv1 σ _ h hk
set_option maxRecDepth 100000 in
set_option maxHeartbeats 4000000 in
theorem L_X8_open_66 {Γ : fhX} (hE : fhEok fhYF (fhEn Γ)) (hΓ : fhOk fhYF 8 cX8_open 6 none Γ) (hd : 8 ≤ fhD Γ) (v1 : Nat) (v3 : Int32) (v4 : Int32) (hv1 : fhiC v1 = true) (σ : fhM) (o : (Int32 × Int32 × fhM) ⊕ (fhM)) (h : f_X8_open_66 v1 v3 v4 σ = some o) (hk : (fhK (fun x => fhW fhYF Γ 30 [(0, .ref 3), (1, .ref v1), (3, .int x.1), (4, .int x.2.1)] [] x.2.2) (fun o => fhRet Γ none o)) o) : fhW fhYF Γ 66 [(0, .ref 3), (1, .ref v1), (3, .int v3), (4, .int v4)] [] σ := by
  unfold f_X8_open_66 at h
  refine fhW.blk fhPF fhLL hΓ [(.iconst 1, 1)] (pc' := 67) (lv' := [(0, .ref 3), (1, .ref v1), (3, .int v3), (4, .int v4)]) (st' := [.int (1 : Int32)]) (σ' := σ) (by decide +kernel) rfl rfl rfl ?_
  refine fhW.goto hΓ (off := 4) (tgt := 71) (by decide +kernel) ?_
  refine fhW.sub (lv' := [(0, .ref 3), (1, .ref v1), (3, .int v3), (4, .int v4)]) [0, 1, 2, 3] rfl ?_
  exact L_X8_open_71 hE hΓ hd v1 v3 v4 (1 : Int32) hv1 σ _ h hk
set_option maxRecDepth 100000 in
set_option maxHeartbeats 4000000 in
theorem L_X8_open_30 {Γ : fhX} (hE : fhEok fhYF (fhEn Γ)) (hΓ : fhOk fhYF 8 cX8_open 6 none Γ) (hd : 8 ≤ fhD Γ) (v1 : Nat) (v3 : Int32) (v4 : Int32) (hv1 : fhiC v1 = true) (σ : fhM) (o : (Int32 × Int32 × fhM) ⊕ (fhM)) (h : f_X8_open_30 v1 v3 v4 σ = some o) (hk : (fhK (fun x => fhW fhYF Γ 30 [(0, .ref 3), (1, .ref v1), (3, .int x.1), (4, .int x.2.1)] [] x.2.2) (fun o => fhRet Γ none o)) o) : fhW fhYF Γ 30 [(0, .ref 3), (1, .ref v1), (3, .int v3), (4, .int v4)] [] σ := by
  unfold f_X8_open_30 at h
  refine fhW.blk fhPF fhLL hΓ [(.iload 4, 0), (.sipush 1600, 1600)] (pc' := 35) (lv' := [(0, .ref 3), (1, .ref v1), (3, .int v3), (4, .int v4)]) (st' := [.int (1600 : Int32), .int v4]) (σ' := σ) (by decide +kernel) rfl rfl rfl ?_
  refine fhW.i_ge hΓ (tgt := 97) (show fhbk _ _ (.if_icmp .ge (62)) _ = true by decide +kernel) (fun hc => ?_) (fun hc => ?_)
  · rw [if_pos hc] at h
    refine fhW.sub (lv' := [(0, .ref 3)]) [0] rfl ?_
    obtain ⟨z1, hz, e2⟩ := Option.map_eq_some_iff.mp h
    clear h
    subst e2
    have h := hz
    have hk : (fun o => fhRet Γ none o) z1 := hk
    exact L_X8_open_97 hE hΓ hd σ _ h hk
  · rw [if_neg hc] at h
    refine fhW.blk fhPF fhLL hΓ [(.iload_n 3, 0), (.aload_n 0, 0), (.getfield 20, 0)] (pc' := 43) (lv' := [(0, .ref 3), (1, .ref v1), (3, .int v3), (4, .int v4)]) (st' := [.int (σ.1 3 3), .int v3]) (σ' := σ) (by decide +kernel) rfl rfl rfl ?_
    refine fhW.i_ge hΓ (tgt := 97) (show fhbk _ _ (.if_icmp .ge (54)) _ = true by decide +kernel) (fun hc => ?_) (fun hc => ?_)
    · rw [if_pos hc] at h
      refine fhW.sub (lv' := [(0, .ref 3)]) [0] rfl ?_
      obtain ⟨z2, hz, e3⟩ := Option.map_eq_some_iff.mp h
      clear h
      subst e3
      have h := hz
      have hk : (fun o => fhRet Γ none o) z2 := hk
      exact L_X8_open_97 hE hΓ hd σ _ h hk
    · rw [if_neg hc] at h
      refine fhW.blk fhPF fhLL hΓ [(.aload_n 1, 0), (.iload_n 3, 0)] (pc' := 48) (lv' := [(0, .ref 3), (1, .ref v1), (3, .int v3), (4, .int v4)]) (st' := [.int v3, .ref v1]) (σ' := σ) (by decide +kernel) rfl rfl rfl ?_
      refine fhW.callv hΓ mvX2_get ml_8_36 (t := v1) (ci := 2) (av := [.int v3]) (rest := []) (r := (some (.int (fcG σ v1 v3)))) (σ' := σ) (T_X2_get (E := fhEn Γ) (d := fhD Γ - 1) hE (by omega) v1 v3 hv1 σ) (by omega) (by decide +kernel) rfl (fhiC_g hv1) rfl (Nat.le_of_ble_eq_true rfl) rfl ?_
      show fhW fhYF Γ 51 [(0, .ref 3), (1, .ref v1), (3, .int v3), (4, .int v4)] [.int (fcG σ v1 v3)] σ
      refine fhW.blk fhPF fhLL hΓ [(.bipush 10, 10)] (pc' := 53) (lv' := [(0, .ref 3), (1, .ref v1), (3, .int v3), (4, .int v4)]) (st' := [.int (10 : Int32), .int (fcG σ v1 v3)]) (σ' := σ) (by decide +kernel) rfl rfl rfl ?_
      refine fhW.i_eq hΓ (tgt := 66) (show fhbk _ _ (.if_icmp .eq (13)) _ = true by decide +kernel) (fun hc => ?_) (fun hc => ?_)
      · rw [if_pos hc] at h
        refine fhW.sub (lv' := [(0, .ref 3), (1, .ref v1), (3, .int v3), (4, .int v4)]) [0, 1, 2, 3] rfl ?_
        exact L_X8_open_66 hE hΓ hd v1 v3 v4 hv1 σ _ h hk
      · rw [if_neg hc] at h
        refine fhW.blk fhPF fhLL hΓ [(.aload_n 1, 0), (.iload_n 3, 0)] (pc' := 58) (lv' := [(0, .ref 3), (1, .ref v1), (3, .int v3), (4, .int v4)]) (st' := [.int v3, .ref v1]) (σ' := σ) (by decide +kernel) rfl rfl rfl ?_
        refine fhW.callv hΓ mvX2_get ml_8_36 (t := v1) (ci := 2) (av := [.int v3]) (rest := []) (r := (some (.int (fcG σ v1 v3)))) (σ' := σ) (T_X2_get (E := fhEn Γ) (d := fhD Γ - 1) hE (by omega) v1 v3 hv1 σ) (by omega) (by decide +kernel) rfl (fhiC_g hv1) rfl (Nat.le_of_ble_eq_true rfl) rfl ?_
        show fhW fhYF Γ 61 [(0, .ref 3), (1, .ref v1), (3, .int v3), (4, .int v4)] [.int (fcG σ v1 v3)] σ
        refine fhW.blk fhPF fhLL hΓ [(.bipush 32, 32)] (pc' := 63) (lv' := [(0, .ref 3), (1, .ref v1), (3, .int v3), (4, .int v4)]) (st' := [.int (32 : Int32), .int (fcG σ v1 v3)]) (σ' := σ) (by decide +kernel) rfl rfl rfl ?_
        refine fhW.i_ne hΓ (tgt := 70) (show fhbk _ _ (.if_icmp .ne (7)) _ = true by decide +kernel) (fun hc => ?_) (fun hc => ?_)
        · rw [if_neg hc] at h
          refine fhW.blk fhPF fhLL hΓ [(.iconst 0, 0)] (pc' := 71) (lv' := [(0, .ref 3), (1, .ref v1), (3, .int v3), (4, .int v4)]) (st' := [.int (0 : Int32)]) (σ' := σ) (by decide +kernel) rfl rfl rfl ?_
          refine fhW.sub (lv' := [(0, .ref 3), (1, .ref v1), (3, .int v3), (4, .int v4)]) [0, 1, 2, 3] rfl ?_
          exact L_X8_open_71 hE hΓ hd v1 v3 v4 (0 : Int32) hv1 σ _ h hk
        · rw [if_pos hc] at h
          refine fhW.sub (lv' := [(0, .ref 3), (1, .ref v1), (3, .int v3), (4, .int v4)]) [0, 1, 2, 3] rfl ?_
          exact L_X8_open_66 hE hΓ hd v1 v3 v4 hv1 σ _ h hk
set_option maxRecDepth 100000 in
set_option maxHeartbeats 4000000 in
theorem L_X8_open_E {Γ : fhX} (hE : fhEok fhYF (fhEn Γ)) (hΓ : fhOk fhYF 8 cX8_open 6 none Γ) (hd : 8 ≤ fhD Γ) (v1 : Nat) (v2 : Int32) (hv1 : fhiC v1 = true) (σ : fhM) (o : fhM) (h : f_X8_open v1 v2 σ = some o) (hk : (fun o => fhRet Γ none o) o) : fhW fhYF Γ 0 [(0, .ref 3), (1, .ref v1), (2, .int v2)] [] σ := by
  unfold f_X8_open at h
  refine fhW.blk fhPF fhLL hΓ [(.aload_n 0, 0), (.iload_n 2, 0), (.putfield 20, 0), (.aload_n 0, 0), (.iconst 0, 0), (.putfield 24, 0), (.aload_n 0, 0), (.iconst (-1), -1), (.putfield 27, 0), (.aload_n 0, 0), (.iconst 0, 0), (.putfield 30, 0), (.aload_n 0, 0), (.iconst 0, 0), (.putfield 33, 0), (.iconst 0, 0), (.istore_n 3, 0), (.iconst 0, 0), (.istore 4, 0)] (pc' := 30) (lv' := [(4, .int (0 : Int32)), (3, .int (0 : Int32)), (0, .ref 3), (1, .ref v1), (2, .int v2)]) (st' := []) (σ' := (fhI (fhI (fhI (fhI (fhI σ 3 3 v2) 3 9 (0 : Int32)) 3 10 (-1 : Int32)) 3 1 (0 : Int32)) 3 2 (0 : Int32))) (by decide +kernel) rfl rfl rfl ?_
  refine fhW.sub (lv' := [(0, .ref 3), (1, .ref v1), (3, .int (0 : Int32)), (4, .int (0 : Int32))]) [2, 3, 1, 0] rfl ?_
  exact fhlp_ok (W := (fun x => fhW fhYF Γ 30 [(0, .ref 3), (1, .ref v1), (3, .int x.1), (4, .int x.2.1)] [] x.2.2)) (B := (fun o => fhRet Γ none o)) (fun x o h hk => L_X8_open_30 hE hΓ hd v1 x.1 x.2.1 hv1 x.2.2 o h hk) ((0 : Int32), (0 : Int32), (fhI (fhI (fhI (fhI (fhI σ 3 3 v2) 3 9 (0 : Int32)) 3 10 (-1 : Int32)) 3 1 (0 : Int32)) 3 2 (0 : Int32))) _ h hk
set_option maxRecDepth 100000 in
theorem T_X8_open {E : fhE} {d : Nat} (hE : fhEok fhYF E) (hd : 8 ≤ d) (v1 : Nat) (v2 : Int32) (hv1 : fhiC v1 = true) (σ : fhM) {o : fhM} (h : f_X8_open v1 v2 σ = some o) : fhC fhYF E d miX8_open [.ref 3, .ref v1, .int v2] σ none o := by
  refine fhC.of (y := yX8_open) (cc := cX8_open) (nL := 6) (ret := none) 8 rfl (by decide +kernel) (Nat.le_of_ble_eq_true rfl) ?_
  intro Γ hΓ hR hD hEn
  subst hD; subst hEn
  exact L_X8_open_E hE hΓ hd v1 v2 hv1 σ _ h hR
set_option maxRecDepth 100000 in
set_option maxHeartbeats 4000000 in
theorem L_X7_open_E {Γ : fhX} (hE : fhEok fhYF (fhEn Γ)) (hΓ : fhOk fhYF 7 cX7_open 3 none Γ) (hd : 9 ≤ fhD Γ) (v0 : Nat) (v1 : Nat) (v2 : Int32) (hv0 : fhiP v0 = true) (hv1 : fhiC v1 = true) (σ : fhM) (o : fhM) (h : f_X7_open v0 v1 v2 σ = some o) (hk : (fun o => fhRet Γ none o) o) : fhW fhYF Γ 0 [(0, .ref v0), (1, .ref v1), (2, .int v2)] [] σ := by
  unfold f_X7_open at h
  refine fhW.blk fhPF fhLL hΓ [(.aload_n 0, 0)] (pc' := 1) (lv' := [(0, .ref v0), (1, .ref v1), (2, .int v2)]) (st' := [.ref v0]) (σ' := σ) (by decide +kernel) rfl rfl rfl ?_
  refine fhW.callv hΓ mvX7_forget ml_7_44 (t := v0) (ci := 7) (av := []) (rest := []) (r := none) (σ' := (f_X7_forget v0 σ)) (T_X7_forget (E := fhEn Γ) (d := fhD Γ - 1) hE (by omega) v0 hv0 σ) (by omega) (by decide +kernel) rfl (fhiP_g hv0) rfl (Nat.le_of_ble_eq_true rfl) rfl ?_
  show fhW fhYF Γ 4 [(0, .ref v0), (1, .ref v1), (2, .int v2)] [] (f_X7_forget v0 σ)
  obtain ⟨q1, e1, h⟩ := fhlet_elim h
  rw [← e1]
  refine fhW.blk fhPF fhLL hΓ [(.aload_n 0, 0), (.getfield 36, 0), (.aload_n 1, 0), (.iload_n 2, 0)] (pc' := 10) (lv' := [(0, .ref v0), (1, .ref v1), (2, .int v2)]) (st' := [.int v2, .ref v1, .ref 3]) (σ' := q1) (by decide +kernel) rfl rfl (by rcases fhiP_or hv0 with rfl | rfl <;> rfl) ?_
  obtain ⟨q2, hb1, h⟩ := Option.bind_eq_some_iff.mp h
  refine fhW.callv hΓ mvX8_open ml_7_47 (t := 3) (ci := 8) (av := [.ref v1, .int v2]) (rest := []) (r := none) (σ' := q2) (T_X8_open (E := fhEn Γ) (d := fhD Γ - 1) hE (by omega) v1 v2 hv1 q1 hb1) (by omega) (by decide +kernel) rfl rfl rfl (Nat.le_of_ble_eq_true rfl) rfl ?_
  show fhW fhYF Γ 13 [(0, .ref v0), (1, .ref v1), (2, .int v2)] [] q2
  have e9 := Option.some.inj h
  subst e9
  exact fhW.vret hΓ (by decide +kernel) hk
set_option maxRecDepth 100000 in
theorem T_X7_open {E : fhE} {d : Nat} (hE : fhEok fhYF E) (hd : 9 ≤ d) (v0 : Nat) (v1 : Nat) (v2 : Int32) (hv0 : fhiP v0 = true) (hv1 : fhiC v1 = true) (σ : fhM) {o : fhM} (h : f_X7_open v0 v1 v2 σ = some o) : fhC fhYF E d miX7_open [.ref v0, .ref v1, .int v2] σ none o := by
  refine fhC.of (y := yX7_open) (cc := cX7_open) (nL := 3) (ret := none) 7 rfl (by decide +kernel) (Nat.le_of_ble_eq_true rfl) ?_
  intro Γ hΓ hR hD hEn
  subst hD; subst hEn
  exact L_X7_open_E hE hΓ hd v0 v1 v2 hv0 hv1 σ _ h hR
set_option maxRecDepth 100000 in
set_option maxHeartbeats 4000000 in
theorem L_X8_isGoingOn_E {Γ : fhX} (hE : fhEok fhYF (fhEn Γ)) (hΓ : fhOk fhYF 8 cX8_isGoingOn 1 (some .boolean) Γ) (hd : 0 ≤ fhD Γ)   (σ : fhM) (o : Bool) (h : f_X8_isGoingOn σ = o) (hk : (fun o => fhRet Γ (some (.int (fhb o))) σ) o) : fhW fhYF Γ 0 [(0, .ref 3)] [] σ := by
  unfold f_X8_isGoingOn at h
  refine fhW.blk fhPF fhLL hΓ [(.aload_n 0, 0), (.getfield 75, 0)] (pc' := 4) (lv' := [(0, .ref 3)]) (st' := [.int (σ.1 3 4)]) (σ' := σ) (by decide +kernel) rfl rfl rfl ?_
  refine fhW.z_eq hΓ (tgt := 18) (show fhbk _ _ (.ifCond .eq (14)) _ = true by decide +kernel) (fun hc => ?_) (fun hc => ?_)
  · rw [if_pos hc] at h
    refine fhW.blk fhPF fhLL hΓ [(.iconst 0, 0)] (pc' := 19) (lv' := [(0, .ref 3)]) (st' := [.int (0 : Int32)]) (σ' := σ) (by decide +kernel) rfl rfl rfl ?_
    subst h
    exact fhW.zret (v := false) hΓ (by decide +kernel) hk
  · rw [if_neg hc] at h
    refine fhW.blk fhPF fhLL hΓ [(.aload_n 0, 0), (.getfield 24, 0)] (pc' := 11) (lv' := [(0, .ref 3)]) (st' := [.int (σ.1 3 9)]) (σ' := σ) (by decide +kernel) rfl rfl rfl ?_
    refine fhW.z_ne hΓ (tgt := 18) (show fhbk _ _ (.ifCond .ne (7)) _ = true by decide +kernel) (fun hc => ?_) (fun hc => ?_)
    · rw [if_neg hc] at h
      refine fhW.blk fhPF fhLL hΓ [(.iconst 0, 0)] (pc' := 19) (lv' := [(0, .ref 3)]) (st' := [.int (0 : Int32)]) (σ' := σ) (by decide +kernel) rfl rfl rfl ?_
      subst h
      exact fhW.zret (v := false) hΓ (by decide +kernel) hk
    · rw [if_pos hc] at h
      refine fhW.blk fhPF fhLL hΓ [(.iconst 1, 1)] (pc' := 15) (lv' := [(0, .ref 3)]) (st' := [.int (1 : Int32)]) (σ' := σ) (by decide +kernel) rfl rfl rfl ?_
      refine fhW.goto hΓ (off := 4) (tgt := 19) (by decide +kernel) ?_
      subst h
      exact fhW.zret (v := true) hΓ (by decide +kernel) hk
set_option maxRecDepth 100000 in
theorem T_X8_isGoingOn {E : fhE} {d : Nat} (hE : fhEok fhYF E) (hd : 0 ≤ d)   (σ : fhM) : fhC fhYF E d miX8_isGoingOn [.ref 3] σ (some (.int (fhb (f_X8_isGoingOn σ)))) σ := by
  refine fhC.of (y := yX8_isGoingOn) (cc := cX8_isGoingOn) (nL := 1) (ret := (some .boolean)) 8 rfl (by decide +kernel) (Nat.le_of_ble_eq_true rfl) ?_
  intro Γ hΓ hR hD hEn
  subst hD; subst hEn
  exact L_X8_isGoingOn_E hE hΓ hd   σ _ rfl hR
set_option maxRecDepth 100000 in
set_option maxHeartbeats 4000000 in
theorem L_X8_wordHere_E {Γ : fhX} (hE : fhEok fhYF (fhEn Γ)) (hΓ : fhOk fhYF 8 cX8_wordHere 1 (some .int) Γ) (hd : 0 ≤ fhD Γ)   (σ : fhM) (o : Int32) (h : f_X8_wordHere σ = o) (hk : (fun o => fhRet Γ (some (.int o)) σ) o) : fhW fhYF Γ 0 [(0, .ref 3)] [] σ := by
  unfold f_X8_wordHere at h
  refine fhW.blk fhPF fhLL hΓ [(.aload_n 0, 0), (.getfield 75, 0), (.iconst 1, 1)] (pc' := 5) (lv' := [(0, .ref 3)]) (st' := [.int (1 : Int32), .int (σ.1 3 4)]) (σ' := σ) (by decide +kernel) rfl rfl rfl ?_
  refine fhW.i_ne hΓ (tgt := 15) (show fhbk _ _ (.if_icmp .ne (10)) _ = true by decide +kernel) (fun hc => ?_) (fun hc => ?_)
  · rw [if_neg hc] at h
    refine fhW.blk fhPF fhLL hΓ [(.bipush 99, 99)] (pc' := 17) (lv' := [(0, .ref 3)]) (st' := [.int (99 : Int32)]) (σ' := σ) (by decide +kernel) rfl rfl rfl ?_
    subst h
    exact fhW.iret hΓ (by decide +kernel) hk
  · rw [if_pos hc] at h
    refine fhW.blk fhPF fhLL hΓ [(.aload_n 0, 0), (.getfield 90, 0)] (pc' := 12) (lv' := [(0, .ref 3)]) (st' := [.int (σ.1 3 7)]) (σ' := σ) (by decide +kernel) rfl rfl rfl ?_
    refine fhW.goto hΓ (off := 5) (tgt := 17) (by decide +kernel) ?_
    subst h
    exact fhW.iret hΓ (by decide +kernel) hk
set_option maxRecDepth 100000 in
theorem T_X8_wordHere {E : fhE} {d : Nat} (hE : fhEok fhYF E) (hd : 0 ≤ d)   (σ : fhM) : fhC fhYF E d miX8_wordHere [.ref 3] σ (some (.int (f_X8_wordHere σ))) σ := by
  refine fhC.of (y := yX8_wordHere) (cc := cX8_wordHere) (nL := 1) (ret := (some .int)) 8 rfl (by decide +kernel) (Nat.le_of_ble_eq_true rfl) ?_
  intro Γ hΓ hR hD hEn
  subst hD; subst hEn
  exact L_X8_wordHere_E hE hΓ hd   σ _ rfl hR
set_option maxRecDepth 100000 in
set_option maxHeartbeats 4000000 in
theorem L_X8_fail_E {Γ : fhX} (hE : fhEok fhYF (fhEn Γ)) (hΓ : fhOk fhYF 8 cX8_fail 3 none Γ) (hd : 0 ≤ fhD Γ) (v1 : Int32) (v2 : Int32)  (σ : fhM) (o : fhM) (h : f_X8_fail v1 v2 σ = o) (hk : (fun o => fhRet Γ none o) o) : fhW fhYF Γ 0 [(0, .ref 3), (1, .int v1), (2, .int v2)] [] σ := by
  unfold f_X8_fail at h
  refine fhW.blk fhPF fhLL hΓ [(.aload_n 0, 0), (.getfield 24, 0)] (pc' := 4) (lv' := [(0, .ref 3), (1, .int v1), (2, .int v2)]) (st' := [.int (σ.1 3 9)]) (σ' := σ) (by decide +kernel) rfl rfl rfl ?_
  refine fhW.z_ne hΓ (tgt := 22) (show fhbk _ _ (.ifCond .ne (18)) _ = true by decide +kernel) (fun hc => ?_) (fun hc => ?_)
  · rw [if_neg hc] at h
    subst h
    exact fhW.vret hΓ (by decide +kernel) hk
  · rw [if_pos hc] at h
    refine fhW.blk fhPF fhLL hΓ [(.aload_n 0, 0), (.iload_n 1, 0), (.putfield 24, 0), (.aload_n 0, 0), (.iload_n 2, 0), (.putfield 27, 0), (.aload_n 0, 0), (.iconst 4, 4), (.putfield 75, 0)] (pc' := 22) (lv' := [(0, .ref 3), (1, .int v1), (2, .int v2)]) (st' := []) (σ' := (fhI (fhI (fhI σ 3 9 v1) 3 10 v2) 3 4 (4 : Int32))) (by decide +kernel) rfl rfl rfl ?_
    subst h
    exact fhW.vret hΓ (by decide +kernel) hk
set_option maxRecDepth 100000 in
theorem T_X8_fail {E : fhE} {d : Nat} (hE : fhEok fhYF E) (hd : 0 ≤ d) (v1 : Int32) (v2 : Int32)  (σ : fhM) : fhC fhYF E d miX8_fail [.ref 3, .int v1, .int v2] σ none (f_X8_fail v1 v2 σ) := by
  refine fhC.of (y := yX8_fail) (cc := cX8_fail) (nL := 3) (ret := none) 8 rfl (by decide +kernel) (Nat.le_of_ble_eq_true rfl) ?_
  intro Γ hΓ hR hD hEn
  subst hD; subst hEn
  exact L_X8_fail_E hE hΓ hd v1 v2  σ _ rfl hR
set_option maxRecDepth 100000 in
set_option maxHeartbeats 4000000 in
theorem L_X8_failHere_E {Γ : fhX} (hE : fhEok fhYF (fhEn Γ)) (hΓ : fhOk fhYF 8 cX8_failHere 1 none Γ) (hd : 1 ≤ fhD Γ)   (σ : fhM) (o : fhM) (h : f_X8_failHere σ = o) (hk : (fun o => fhRet Γ none o) o) : fhW fhYF Γ 0 [(0, .ref 3)] [] σ := by
  unfold f_X8_failHere at h
  refine fhW.blk fhPF fhLL hΓ [(.aload_n 0, 0), (.iconst 1, 1), (.aload_n 0, 0), (.getfield 78, 0)] (pc' := 6) (lv' := [(0, .ref 3)]) (st' := [.int (σ.1 3 8), .int (1 : Int32), .ref 3]) (σ' := σ) (by decide +kernel) rfl rfl rfl ?_
  refine fhW.callv hΓ mvX8_fail ml_8_81 (t := 3) (ci := 8) (av := [.int (1 : Int32), .int (σ.1 3 8)]) (rest := []) (r := none) (σ' := (f_X8_fail (1 : Int32) (σ.1 3 8) σ)) (T_X8_fail (E := fhEn Γ) (d := fhD Γ - 1) hE (by omega) (1 : Int32) (σ.1 3 8) σ) (by omega) (by decide +kernel) rfl rfl rfl (Nat.le_of_ble_eq_true rfl) rfl ?_
  show fhW fhYF Γ 9 [(0, .ref 3)] [] (f_X8_fail (1 : Int32) (σ.1 3 8) σ)
  obtain ⟨q1, e1, h⟩ := fhlet_elim h
  rw [← e1]
  subst h
  exact fhW.vret hΓ (by decide +kernel) hk
set_option maxRecDepth 100000 in
theorem T_X8_failHere {E : fhE} {d : Nat} (hE : fhEok fhYF E) (hd : 1 ≤ d)   (σ : fhM) : fhC fhYF E d miX8_failHere [.ref 3] σ none (f_X8_failHere σ) := by
  refine fhC.of (y := yX8_failHere) (cc := cX8_failHere) (nL := 1) (ret := none) 8 rfl (by decide +kernel) (Nat.le_of_ble_eq_true rfl) ?_
  intro Γ hΓ hR hD hEn
  subst hD; subst hEn
  exact L_X8_failHere_E hE hΓ hd   σ _ rfl hR

