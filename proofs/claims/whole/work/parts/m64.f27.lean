set_option maxRecDepth 100000 in
set_option maxHeartbeats 4000000 in
theorem L_X7_readStatement_141 {Γ : fhX} (hE : fhEok fhYF (fhEn Γ)) (hΓ : fhOk fhYF 7 cX7_readStatement 3 none Γ) (hd : 68 ≤ fhD Γ) (v0 : Nat) (hv0 : fhiP v0 = true) (σ : fhM) (o : fhM) (h : f_X7_readStatement_141 v0 σ = some o) (hk : (fun o => fhRet Γ none o) o) : fhW fhYF Γ 141 [(0, .ref v0)] [] σ := by
  unfold f_X7_readStatement_141 at h
  refine fhW.blk fhPF fhLL hΓ [(.aload_n 0, 0), (.getfield 36, 0), (.bipush 59, 59)] (pc' := 147) (lv' := [(0, .ref v0)]) (st' := [.int (59 : Int32), .ref 3]) (σ' := σ) (by decide +kernel) rfl rfl (by rcases fhiP_or hv0 with rfl | rfl <;> rfl) ?_
  refine fhW.callv hΓ mvX8_takeSign ml_7_137 (t := 3) (ci := 8) (av := [.int (59 : Int32)]) (rest := []) (r := none) (σ' := (f_X8_takeSign (59 : Int32) σ)) (T_X8_takeSign (E := fhEn Γ) (d := fhD Γ - 1) hE (by omega) (59 : Int32) σ) (by omega) (by decide +kernel) rfl rfl rfl (Nat.le_of_ble_eq_true rfl) rfl ?_
  show fhW fhYF Γ 150 [(0, .ref v0)] [] (f_X8_takeSign (59 : Int32) σ)
  obtain ⟨q22, e1, h⟩ := fhlet_elim h
  rw [← e1]
  refine fhW.blk fhPF fhLL hΓ [(.aload_n 0, 0), (.dup, 0), (.getfield 64, 0), (.iconst 1, 1), (.iadd, 0), (.putfield 64, 0)] (pc' := 160) (lv' := [(0, .ref v0)]) (st' := []) (σ' := (fhI q22 v0 8 ((q22.1 v0 8) + (1 : Int32)))) (by decide +kernel) rfl rfl (by rcases fhiP_or hv0 with rfl | rfl <;> rfl) ?_
  have e9 := Option.some.inj h
  subst e9
  exact fhW.vret hΓ (by decide +kernel) hk
set_option maxRecDepth 100000 in
set_option maxHeartbeats 4000000 in
theorem L_X7_readStatement_E {Γ : fhX} (hE : fhEok fhYF (fhEn Γ)) (hΓ : fhOk fhYF 7 cX7_readStatement 3 none Γ) (hd : 68 ≤ fhD Γ) (v0 : Nat) (hv0 : fhiP v0 = true) (σ : fhM) (o : fhM) (h : f_X7_readStatement v0 σ = some o) (hk : (fun o => fhRet Γ none o) o) : fhW fhYF Γ 0 [(0, .ref v0)] [] σ := by
  unfold f_X7_readStatement at h
  refine fhW.blk fhPF fhLL hΓ [(.aload_n 0, 0)] (pc' := 1) (lv' := [(0, .ref v0)]) (st' := [.ref v0]) (σ' := σ) (by decide +kernel) rfl rfl rfl ?_
  refine fhW.callv hΓ mvX7_statementWord ml_7_108 (t := v0) (ci := 7) (av := []) (rest := []) (r := (some (.int (f_X7_statementWord v0 σ).1))) (σ' := (f_X7_statementWord v0 σ).2) (T_X7_statementWord (E := fhEn Γ) (d := fhD Γ - 1) hE (by omega) v0 hv0 σ) (by omega) (by decide +kernel) rfl (fhiP_g hv0) rfl (Nat.le_of_ble_eq_true rfl) rfl ?_
  show fhW fhYF Γ 4 [(0, .ref v0)] [.int (f_X7_statementWord v0 σ).1] (f_X7_statementWord v0 σ).2
  obtain ⟨q1, e2, h⟩ := fhlet_elim h
  rw [← e2]
  refine fhW.blk fhPF fhLL hΓ [(.istore_n 1, 0), (.aload_n 0, 0), (.getfield 36, 0)] (pc' := 9) (lv' := [(1, .int q1.1), (0, .ref v0)]) (st' := [.ref 3]) (σ' := q1.2) (by decide +kernel) rfl rfl (by rcases fhiP_or hv0 with rfl | rfl <;> rfl) ?_
  refine fhW.callv hΓ mvX8_advance ml_7_112 (t := 3) (ci := 8) (av := []) (rest := []) (r := none) (σ' := (f_X8_advance q1.2)) (T_X8_advance (E := fhEn Γ) (d := fhD Γ - 1) hE (by omega) q1.2) (by omega) (by decide +kernel) rfl rfl rfl (Nat.le_of_ble_eq_true rfl) rfl ?_
  show fhW fhYF Γ 12 [(1, .int q1.1), (0, .ref v0)] [] (f_X8_advance q1.2)
  obtain ⟨q2, e3, h⟩ := fhlet_elim h
  rw [← e3]
  refine fhW.blk fhPF fhLL hΓ [(.iload_n 1, 0)] (pc' := 13) (lv' := [(1, .int q1.1), (0, .ref v0)]) (st' := [.int q1.1]) (σ' := q2) (by decide +kernel) rfl rfl rfl ?_
  refine fhW.tsw hΓ (dflt := 94) (lo := 0) (hi := 7) (offs := #[47, 63, 94, 70, 94, 94, 94, 77]) (len := 47) (td := 107) [(0, 60), (1, 76), (2, 107), (3, 83), (4, 107), (5, 107), (6, 107), (7, 90)] (by decide +kernel) ?_
  refine fhsw_c (fun hc => ?_) (fun hc => ?_)
  · rw [if_pos hc] at h
    refine fhW.blk fhPF fhLL hΓ [(.aload_n 0, 0), (.aload_n 0, 0), (.getfield 36, 0), (.iconst 2, 2), (.iconst 4, 4)] (pc' := 67) (lv' := [(1, .int q1.1), (0, .ref v0)]) (st' := [.int (4 : Int32), .int (2 : Int32), .ref 3, .ref v0]) (σ' := q2) (by decide +kernel) rfl rfl (by rcases fhiP_or hv0 with rfl | rfl <;> rfl) ?_
    refine fhW.callv hΓ mvX8_takeNumberWithin ml_7_115 (t := 3) (ci := 8) (av := [.int (2 : Int32), .int (4 : Int32)]) (rest := [.ref v0]) (r := (some (.int (f_X8_takeNumberWithin (2 : Int32) (4 : Int32) q2).1))) (σ' := (f_X8_takeNumberWithin (2 : Int32) (4 : Int32) q2).2) (T_X8_takeNumberWithin (E := fhEn Γ) (d := fhD Γ - 1) hE (by omega) (2 : Int32) (4 : Int32) q2) (by omega) (by decide +kernel) rfl rfl rfl (Nat.le_of_ble_eq_true rfl) rfl ?_
    show fhW fhYF Γ 70 [(1, .int q1.1), (0, .ref v0)] [.int (f_X8_takeNumberWithin (2 : Int32) (4 : Int32) q2).1, .ref v0] (f_X8_takeNumberWithin (2 : Int32) (4 : Int32) q2).2
    obtain ⟨q3, e4, h⟩ := fhlet_elim h
    rw [← e4]
    refine fhW.blk fhPF fhLL hΓ [(.putfield 74, 0)] (pc' := 73) (lv' := [(1, .int q1.1), (0, .ref v0)]) (st' := []) (σ' := (fhI q3.2 v0 9 q3.1)) (by decide +kernel) rfl rfl (by rcases fhiP_or hv0 with rfl | rfl <;> rfl) ?_
    refine fhW.goto hΓ (off := 68) (tgt := 141) (by decide +kernel) ?_
    refine fhW.sub (lv' := [(0, .ref v0)]) [1] rfl ?_
    exact L_X7_readStatement_141 hE hΓ hd v0 hv0 (fhI q3.2 v0 9 q3.1) _ h hk
  rw [if_neg hc] at h
  refine fhsw_c (fun hc => ?_) (fun hc => ?_)
  · rw [if_pos hc] at h
    refine fhW.blk fhPF fhLL hΓ [(.aload_n 0, 0)] (pc' := 77) (lv' := [(1, .int q1.1), (0, .ref v0)]) (st' := [.ref v0]) (σ' := q2) (by decide +kernel) rfl rfl rfl ?_
    obtain ⟨q4, hb1, h⟩ := Option.bind_eq_some_iff.mp h
    refine fhW.callv hΓ mvX7_readGuest ml_7_119 (t := v0) (ci := 7) (av := []) (rest := []) (r := none) (σ' := q4) (T_X7_readGuest (E := fhEn Γ) (d := fhD Γ - 1) hE (by omega) v0 hv0 q2 hb1) (by omega) (by decide +kernel) rfl (fhiP_g hv0) rfl (Nat.le_of_ble_eq_true rfl) rfl ?_
    show fhW fhYF Γ 80 [(1, .int q1.1), (0, .ref v0)] [] q4
    refine fhW.goto hΓ (off := 61) (tgt := 141) (by decide +kernel) ?_
    refine fhW.sub (lv' := [(0, .ref v0)]) [1] rfl ?_
    exact L_X7_readStatement_141 hE hΓ hd v0 hv0 q4 _ h hk
  rw [if_neg hc] at h
  refine fhsw_c (fun hc => ?_) (fun hc => ?_)
  · rw [if_pos hc] at h
    refine fhW.blk fhPF fhLL hΓ [(.aload_n 0, 0), (.getfield 12, 0), (.getfield 102, 0), (.istore_n 2, 0), (.aload_n 0, 0), (.getfield 40, 0)] (pc' := 119) (lv' := [(2, .int (q2.1 (v0 + 1) 1)), (1, .int q1.1), (0, .ref v0)]) (st' := [.ref 9]) (σ' := q2) (by decide +kernel) rfl rfl (by rcases fhiP_or hv0 with rfl | rfl <;> rfl) ?_
    refine fhW.blk fhPF fhLL hΓ [(.aload_n 0, 0), (.getfield 12, 0), (.aload_n 0, 0), (.iconst 0, 0)] (pc' := 125) (lv' := [(2, .int (q2.1 (v0 + 1) 1)), (1, .int q1.1), (0, .ref v0)]) (st' := [.int (0 : Int32), .ref v0, .ref (v0 + 1), .ref 9]) (σ' := q2) (by decide +kernel) rfl rfl (by rcases fhiP_or hv0 with rfl | rfl <;> rfl) ?_
    obtain ⟨q5, hb2, h⟩ := Option.bind_eq_some_iff.mp h
    refine fhW.callv hΓ mvX5_begin ml_7_125 (t := 9) (ci := 5) (av := [.ref (v0 + 1), .ref v0, .int (0 : Int32)]) (rest := []) (r := none) (σ' := q5) (T_X5_begin (E := fhEn Γ) (d := fhD Γ - 1) hE (by omega) (v0 + 1) v0 (0 : Int32) (fhiP_ind (p := fun q => fhiK (q + 1) = true) hv0 rfl rfl) hv0 q2 hb2) (by omega) (by decide +kernel) rfl rfl rfl (Nat.le_of_ble_eq_true rfl) rfl ?_
    show fhW fhYF Γ 128 [(2, .int (q2.1 (v0 + 1) 1)), (1, .int q1.1), (0, .ref v0)] [] q5
    refine fhW.blk fhPF fhLL hΓ [(.aload_n 0, 0), (.getfield 40, 0)] (pc' := 132) (lv' := [(2, .int (q2.1 (v0 + 1) 1)), (1, .int q1.1), (0, .ref v0)]) (st' := [.ref 9]) (σ' := q5) (by decide +kernel) rfl rfl (by rcases fhiP_or hv0 with rfl | rfl <;> rfl) ?_
    obtain ⟨q6, hb3, h⟩ := Option.bind_eq_some_iff.mp h
    refine fhW.callv hΓ mvX5_test ml_7_131 (t := 9) (ci := 5) (av := []) (rest := []) (r := none) (σ' := q6) (T_X5_testN (E := fhEn Γ) (d := fhD Γ - 1) hE (by omega) q5 hb3) (by omega) (by decide +kernel) rfl rfl rfl (Nat.le_of_ble_eq_true rfl) rfl ?_
    show fhW fhYF Γ 135 [(2, .int (q2.1 (v0 + 1) 1)), (1, .int q1.1), (0, .ref v0)] [] q6
    refine fhW.blk fhPF fhLL hΓ [(.aload_n 0, 0), (.iload_n 1, 0), (.iload_n 2, 0)] (pc' := 138) (lv' := [(2, .int (q2.1 (v0 + 1) 1)), (1, .int q1.1), (0, .ref v0)]) (st' := [.int (q2.1 (v0 + 1) 1), .int q1.1, .ref v0]) (σ' := q6) (by decide +kernel) rfl rfl rfl ?_
    refine fhW.callv hΓ mvX7_noteTest ml_7_134 (t := v0) (ci := 7) (av := [.int q1.1, .int (q2.1 (v0 + 1) 1)]) (rest := []) (r := none) (σ' := (f_X7_noteTest v0 q1.1 (q2.1 (v0 + 1) 1) q6)) (T_X7_noteTest (E := fhEn Γ) (d := fhD Γ - 1) hE (by omega) v0 q1.1 (q2.1 (v0 + 1) 1) hv0 q6) (by omega) (by decide +kernel) rfl (fhiP_g hv0) rfl (Nat.le_of_ble_eq_true rfl) rfl ?_
    show fhW fhYF Γ 141 [(2, .int (q2.1 (v0 + 1) 1)), (1, .int q1.1), (0, .ref v0)] [] (f_X7_noteTest v0 q1.1 (q2.1 (v0 + 1) 1) q6)
    obtain ⟨q7, e5, h⟩ := fhlet_elim h
    rw [← e5]
    refine fhW.sub (lv' := [(0, .ref v0)]) [2] rfl ?_
    exact L_X7_readStatement_141 hE hΓ hd v0 hv0 q7 _ h hk
  rw [if_neg hc] at h
  refine fhsw_c (fun hc => ?_) (fun hc => ?_)
  · rw [if_pos hc] at h
    refine fhW.blk fhPF fhLL hΓ [(.aload_n 0, 0)] (pc' := 84) (lv' := [(1, .int q1.1), (0, .ref v0)]) (st' := [.ref v0]) (σ' := q2) (by decide +kernel) rfl rfl rfl ?_
    obtain ⟨q8, hb4, h⟩ := Option.bind_eq_some_iff.mp h
    refine fhW.callv hΓ mvX7_readBlind ml_7_122 (t := v0) (ci := 7) (av := []) (rest := []) (r := none) (σ' := q8) (T_X7_readBlind (E := fhEn Γ) (d := fhD Γ - 1) hE (by omega) v0 hv0 q2 hb4) (by omega) (by decide +kernel) rfl (fhiP_g hv0) rfl (Nat.le_of_ble_eq_true rfl) rfl ?_
    show fhW fhYF Γ 87 [(1, .int q1.1), (0, .ref v0)] [] q8
    refine fhW.goto hΓ (off := 54) (tgt := 141) (by decide +kernel) ?_
    refine fhW.sub (lv' := [(0, .ref v0)]) [1] rfl ?_
    exact L_X7_readStatement_141 hE hΓ hd v0 hv0 q8 _ h hk
  rw [if_neg hc] at h
  refine fhsw_c (fun hc => ?_) (fun hc => ?_)
  · rw [if_pos hc] at h
    refine fhW.blk fhPF fhLL hΓ [(.aload_n 0, 0), (.getfield 12, 0), (.getfield 102, 0), (.istore_n 2, 0), (.aload_n 0, 0), (.getfield 40, 0)] (pc' := 119) (lv' := [(2, .int (q2.1 (v0 + 1) 1)), (1, .int q1.1), (0, .ref v0)]) (st' := [.ref 9]) (σ' := q2) (by decide +kernel) rfl rfl (by rcases fhiP_or hv0 with rfl | rfl <;> rfl) ?_
    refine fhW.blk fhPF fhLL hΓ [(.aload_n 0, 0), (.getfield 12, 0), (.aload_n 0, 0), (.iconst 0, 0)] (pc' := 125) (lv' := [(2, .int (q2.1 (v0 + 1) 1)), (1, .int q1.1), (0, .ref v0)]) (st' := [.int (0 : Int32), .ref v0, .ref (v0 + 1), .ref 9]) (σ' := q2) (by decide +kernel) rfl rfl (by rcases fhiP_or hv0 with rfl | rfl <;> rfl) ?_
    obtain ⟨q9, hb5, h⟩ := Option.bind_eq_some_iff.mp h
    refine fhW.callv hΓ mvX5_begin ml_7_125 (t := 9) (ci := 5) (av := [.ref (v0 + 1), .ref v0, .int (0 : Int32)]) (rest := []) (r := none) (σ' := q9) (T_X5_begin (E := fhEn Γ) (d := fhD Γ - 1) hE (by omega) (v0 + 1) v0 (0 : Int32) (fhiP_ind (p := fun q => fhiK (q + 1) = true) hv0 rfl rfl) hv0 q2 hb5) (by omega) (by decide +kernel) rfl rfl rfl (Nat.le_of_ble_eq_true rfl) rfl ?_
    show fhW fhYF Γ 128 [(2, .int (q2.1 (v0 + 1) 1)), (1, .int q1.1), (0, .ref v0)] [] q9
    refine fhW.blk fhPF fhLL hΓ [(.aload_n 0, 0), (.getfield 40, 0)] (pc' := 132) (lv' := [(2, .int (q2.1 (v0 + 1) 1)), (1, .int q1.1), (0, .ref v0)]) (st' := [.ref 9]) (σ' := q9) (by decide +kernel) rfl rfl (by rcases fhiP_or hv0 with rfl | rfl <;> rfl) ?_
    obtain ⟨q10, hb6, h⟩ := Option.bind_eq_some_iff.mp h
    refine fhW.callv hΓ mvX5_test ml_7_131 (t := 9) (ci := 5) (av := []) (rest := []) (r := none) (σ' := q10) (T_X5_testN (E := fhEn Γ) (d := fhD Γ - 1) hE (by omega) q9 hb6) (by omega) (by decide +kernel) rfl rfl rfl (Nat.le_of_ble_eq_true rfl) rfl ?_
    show fhW fhYF Γ 135 [(2, .int (q2.1 (v0 + 1) 1)), (1, .int q1.1), (0, .ref v0)] [] q10
    refine fhW.blk fhPF fhLL hΓ [(.aload_n 0, 0), (.iload_n 1, 0), (.iload_n 2, 0)] (pc' := 138) (lv' := [(2, .int (q2.1 (v0 + 1) 1)), (1, .int q1.1), (0, .ref v0)]) (st' := [.int (q2.1 (v0 + 1) 1), .int q1.1, .ref v0]) (σ' := q10) (by decide +kernel) rfl rfl rfl ?_
    refine fhW.callv hΓ mvX7_noteTest ml_7_134 (t := v0) (ci := 7) (av := [.int q1.1, .int (q2.1 (v0 + 1) 1)]) (rest := []) (r := none) (σ' := (f_X7_noteTest v0 q1.1 (q2.1 (v0 + 1) 1) q10)) (T_X7_noteTest (E := fhEn Γ) (d := fhD Γ - 1) hE (by omega) v0 q1.1 (q2.1 (v0 + 1) 1) hv0 q10) (by omega) (by decide +kernel) rfl (fhiP_g hv0) rfl (Nat.le_of_ble_eq_true rfl) rfl ?_
    show fhW fhYF Γ 141 [(2, .int (q2.1 (v0 + 1) 1)), (1, .int q1.1), (0, .ref v0)] [] (f_X7_noteTest v0 q1.1 (q2.1 (v0 + 1) 1) q10)
    obtain ⟨q11, e6, h⟩ := fhlet_elim h
    rw [← e6]
    refine fhW.sub (lv' := [(0, .ref v0)]) [2] rfl ?_
    exact L_X7_readStatement_141 hE hΓ hd v0 hv0 q11 _ h hk
  rw [if_neg hc] at h
  refine fhsw_c (fun hc => ?_) (fun hc => ?_)
  · rw [if_pos hc] at h
    refine fhW.blk fhPF fhLL hΓ [(.aload_n 0, 0), (.getfield 12, 0), (.getfield 102, 0), (.istore_n 2, 0), (.aload_n 0, 0), (.getfield 40, 0)] (pc' := 119) (lv' := [(2, .int (q2.1 (v0 + 1) 1)), (1, .int q1.1), (0, .ref v0)]) (st' := [.ref 9]) (σ' := q2) (by decide +kernel) rfl rfl (by rcases fhiP_or hv0 with rfl | rfl <;> rfl) ?_
    refine fhW.blk fhPF fhLL hΓ [(.aload_n 0, 0), (.getfield 12, 0), (.aload_n 0, 0), (.iconst 0, 0)] (pc' := 125) (lv' := [(2, .int (q2.1 (v0 + 1) 1)), (1, .int q1.1), (0, .ref v0)]) (st' := [.int (0 : Int32), .ref v0, .ref (v0 + 1), .ref 9]) (σ' := q2) (by decide +kernel) rfl rfl (by rcases fhiP_or hv0 with rfl | rfl <;> rfl) ?_
    obtain ⟨q12, hb7, h⟩ := Option.bind_eq_some_iff.mp h
    refine fhW.callv hΓ mvX5_begin ml_7_125 (t := 9) (ci := 5) (av := [.ref (v0 + 1), .ref v0, .int (0 : Int32)]) (rest := []) (r := none) (σ' := q12) (T_X5_begin (E := fhEn Γ) (d := fhD Γ - 1) hE (by omega) (v0 + 1) v0 (0 : Int32) (fhiP_ind (p := fun q => fhiK (q + 1) = true) hv0 rfl rfl) hv0 q2 hb7) (by omega) (by decide +kernel) rfl rfl rfl (Nat.le_of_ble_eq_true rfl) rfl ?_
    show fhW fhYF Γ 128 [(2, .int (q2.1 (v0 + 1) 1)), (1, .int q1.1), (0, .ref v0)] [] q12
    refine fhW.blk fhPF fhLL hΓ [(.aload_n 0, 0), (.getfield 40, 0)] (pc' := 132) (lv' := [(2, .int (q2.1 (v0 + 1) 1)), (1, .int q1.1), (0, .ref v0)]) (st' := [.ref 9]) (σ' := q12) (by decide +kernel) rfl rfl (by rcases fhiP_or hv0 with rfl | rfl <;> rfl) ?_
    obtain ⟨q13, hb8, h⟩ := Option.bind_eq_some_iff.mp h
    refine fhW.callv hΓ mvX5_test ml_7_131 (t := 9) (ci := 5) (av := []) (rest := []) (r := none) (σ' := q13) (T_X5_testN (E := fhEn Γ) (d := fhD Γ - 1) hE (by omega) q12 hb8) (by omega) (by decide +kernel) rfl rfl rfl (Nat.le_of_ble_eq_true rfl) rfl ?_
    show fhW fhYF Γ 135 [(2, .int (q2.1 (v0 + 1) 1)), (1, .int q1.1), (0, .ref v0)] [] q13
    refine fhW.blk fhPF fhLL hΓ [(.aload_n 0, 0), (.iload_n 1, 0), (.iload_n 2, 0)] (pc' := 138) (lv' := [(2, .int (q2.1 (v0 + 1) 1)), (1, .int q1.1), (0, .ref v0)]) (st' := [.int (q2.1 (v0 + 1) 1), .int q1.1, .ref v0]) (σ' := q13) (by decide +kernel) rfl rfl rfl ?_
    refine fhW.callv hΓ mvX7_noteTest ml_7_134 (t := v0) (ci := 7) (av := [.int q1.1, .int (q2.1 (v0 + 1) 1)]) (rest := []) (r := none) (σ' := (f_X7_noteTest v0 q1.1 (q2.1 (v0 + 1) 1) q13)) (T_X7_noteTest (E := fhEn Γ) (d := fhD Γ - 1) hE (by omega) v0 q1.1 (q2.1 (v0 + 1) 1) hv0 q13) (by omega) (by decide +kernel) rfl (fhiP_g hv0) rfl (Nat.le_of_ble_eq_true rfl) rfl ?_
    show fhW fhYF Γ 141 [(2, .int (q2.1 (v0 + 1) 1)), (1, .int q1.1), (0, .ref v0)] [] (f_X7_noteTest v0 q1.1 (q2.1 (v0 + 1) 1) q13)
    obtain ⟨q14, e7, h⟩ := fhlet_elim h
    rw [← e7]
    refine fhW.sub (lv' := [(0, .ref v0)]) [2] rfl ?_
    exact L_X7_readStatement_141 hE hΓ hd v0 hv0 q14 _ h hk
  rw [if_neg hc] at h
  refine fhsw_c (fun hc => ?_) (fun hc => ?_)
  · rw [if_pos hc] at h
    refine fhW.blk fhPF fhLL hΓ [(.aload_n 0, 0), (.getfield 12, 0), (.getfield 102, 0), (.istore_n 2, 0), (.aload_n 0, 0), (.getfield 40, 0)] (pc' := 119) (lv' := [(2, .int (q2.1 (v0 + 1) 1)), (1, .int q1.1), (0, .ref v0)]) (st' := [.ref 9]) (σ' := q2) (by decide +kernel) rfl rfl (by rcases fhiP_or hv0 with rfl | rfl <;> rfl) ?_
    refine fhW.blk fhPF fhLL hΓ [(.aload_n 0, 0), (.getfield 12, 0), (.aload_n 0, 0), (.iconst 0, 0)] (pc' := 125) (lv' := [(2, .int (q2.1 (v0 + 1) 1)), (1, .int q1.1), (0, .ref v0)]) (st' := [.int (0 : Int32), .ref v0, .ref (v0 + 1), .ref 9]) (σ' := q2) (by decide +kernel) rfl rfl (by rcases fhiP_or hv0 with rfl | rfl <;> rfl) ?_
    obtain ⟨q15, hb9, h⟩ := Option.bind_eq_some_iff.mp h
    refine fhW.callv hΓ mvX5_begin ml_7_125 (t := 9) (ci := 5) (av := [.ref (v0 + 1), .ref v0, .int (0 : Int32)]) (rest := []) (r := none) (σ' := q15) (T_X5_begin (E := fhEn Γ) (d := fhD Γ - 1) hE (by omega) (v0 + 1) v0 (0 : Int32) (fhiP_ind (p := fun q => fhiK (q + 1) = true) hv0 rfl rfl) hv0 q2 hb9) (by omega) (by decide +kernel) rfl rfl rfl (Nat.le_of_ble_eq_true rfl) rfl ?_
    show fhW fhYF Γ 128 [(2, .int (q2.1 (v0 + 1) 1)), (1, .int q1.1), (0, .ref v0)] [] q15
    refine fhW.blk fhPF fhLL hΓ [(.aload_n 0, 0), (.getfield 40, 0)] (pc' := 132) (lv' := [(2, .int (q2.1 (v0 + 1) 1)), (1, .int q1.1), (0, .ref v0)]) (st' := [.ref 9]) (σ' := q15) (by decide +kernel) rfl rfl (by rcases fhiP_or hv0 with rfl | rfl <;> rfl) ?_
    obtain ⟨q16, hb10, h⟩ := Option.bind_eq_some_iff.mp h
    refine fhW.callv hΓ mvX5_test ml_7_131 (t := 9) (ci := 5) (av := []) (rest := []) (r := none) (σ' := q16) (T_X5_testN (E := fhEn Γ) (d := fhD Γ - 1) hE (by omega) q15 hb10) (by omega) (by decide +kernel) rfl rfl rfl (Nat.le_of_ble_eq_true rfl) rfl ?_
    show fhW fhYF Γ 135 [(2, .int (q2.1 (v0 + 1) 1)), (1, .int q1.1), (0, .ref v0)] [] q16
    refine fhW.blk fhPF fhLL hΓ [(.aload_n 0, 0), (.iload_n 1, 0), (.iload_n 2, 0)] (pc' := 138) (lv' := [(2, .int (q2.1 (v0 + 1) 1)), (1, .int q1.1), (0, .ref v0)]) (st' := [.int (q2.1 (v0 + 1) 1), .int q1.1, .ref v0]) (σ' := q16) (by decide +kernel) rfl rfl rfl ?_
    refine fhW.callv hΓ mvX7_noteTest ml_7_134 (t := v0) (ci := 7) (av := [.int q1.1, .int (q2.1 (v0 + 1) 1)]) (rest := []) (r := none) (σ' := (f_X7_noteTest v0 q1.1 (q2.1 (v0 + 1) 1) q16)) (T_X7_noteTest (E := fhEn Γ) (d := fhD Γ - 1) hE (by omega) v0 q1.1 (q2.1 (v0 + 1) 1) hv0 q16) (by omega) (by decide +kernel) rfl (fhiP_g hv0) rfl (Nat.le_of_ble_eq_true rfl) rfl ?_
    show fhW fhYF Γ 141 [(2, .int (q2.1 (v0 + 1) 1)), (1, .int q1.1), (0, .ref v0)] [] (f_X7_noteTest v0 q1.1 (q2.1 (v0 + 1) 1) q16)
    obtain ⟨q17, e8, h⟩ := fhlet_elim h
    rw [← e8]
    refine fhW.sub (lv' := [(0, .ref v0)]) [2] rfl ?_
    exact L_X7_readStatement_141 hE hΓ hd v0 hv0 q17 _ h hk
  rw [if_neg hc] at h
  refine fhsw_c (fun hc => ?_) (fun hc => ?_)
  · rw [if_pos hc] at h
    refine fhW.blk fhPF fhLL hΓ [(.aload_n 0, 0), (.aload_n 0, 0), (.getfield 36, 0), (.iconst 0, 0), (.bipush 100, 100)] (pc' := 98) (lv' := [(1, .int q1.1), (0, .ref v0)]) (st' := [.int (100 : Int32), .int (0 : Int32), .ref 3, .ref v0]) (σ' := q2) (by decide +kernel) rfl rfl (by rcases fhiP_or hv0 with rfl | rfl <;> rfl) ?_
    refine fhW.callv hΓ mvX8_takeNumberWithin ml_7_115 (t := 3) (ci := 8) (av := [.int (0 : Int32), .int (100 : Int32)]) (rest := [.ref v0]) (r := (some (.int (f_X8_takeNumberWithin (0 : Int32) (100 : Int32) q2).1))) (σ' := (f_X8_takeNumberWithin (0 : Int32) (100 : Int32) q2).2) (T_X8_takeNumberWithin (E := fhEn Γ) (d := fhD Γ - 1) hE (by omega) (0 : Int32) (100 : Int32) q2) (by omega) (by decide +kernel) rfl rfl rfl (Nat.le_of_ble_eq_true rfl) rfl ?_
    show fhW fhYF Γ 101 [(1, .int q1.1), (0, .ref v0)] [.int (f_X8_takeNumberWithin (0 : Int32) (100 : Int32) q2).1, .ref v0] (f_X8_takeNumberWithin (0 : Int32) (100 : Int32) q2).2
    obtain ⟨q18, e9, h⟩ := fhlet_elim h
    rw [← e9]
    refine fhW.blk fhPF fhLL hΓ [(.putfield 96, 0)] (pc' := 104) (lv' := [(1, .int q1.1), (0, .ref v0)]) (st' := []) (σ' := (fhI q18.2 v0 13 q18.1)) (by decide +kernel) rfl rfl (by rcases fhiP_or hv0 with rfl | rfl <;> rfl) ?_
    refine fhW.goto hΓ (off := 37) (tgt := 141) (by decide +kernel) ?_
    refine fhW.sub (lv' := [(0, .ref v0)]) [1] rfl ?_
    exact L_X7_readStatement_141 hE hΓ hd v0 hv0 (fhI q18.2 v0 13 q18.1) _ h hk
  rw [if_neg hc] at h
  refine fhsw_n ?_
  refine fhW.blk fhPF fhLL hΓ [(.aload_n 0, 0), (.getfield 12, 0), (.getfield 102, 0), (.istore_n 2, 0), (.aload_n 0, 0), (.getfield 40, 0)] (pc' := 119) (lv' := [(2, .int (q2.1 (v0 + 1) 1)), (1, .int q1.1), (0, .ref v0)]) (st' := [.ref 9]) (σ' := q2) (by decide +kernel) rfl rfl (by rcases fhiP_or hv0 with rfl | rfl <;> rfl) ?_
  refine fhW.blk fhPF fhLL hΓ [(.aload_n 0, 0), (.getfield 12, 0), (.aload_n 0, 0), (.iconst 0, 0)] (pc' := 125) (lv' := [(2, .int (q2.1 (v0 + 1) 1)), (1, .int q1.1), (0, .ref v0)]) (st' := [.int (0 : Int32), .ref v0, .ref (v0 + 1), .ref 9]) (σ' := q2) (by decide +kernel) rfl rfl (by rcases fhiP_or hv0 with rfl | rfl <;> rfl) ?_
  obtain ⟨q19, hb11, h⟩ := Option.bind_eq_some_iff.mp h
  refine fhW.callv hΓ mvX5_begin ml_7_125 (t := 9) (ci := 5) (av := [.ref (v0 + 1), .ref v0, .int (0 : Int32)]) (rest := []) (r := none) (σ' := q19) (T_X5_begin (E := fhEn Γ) (d := fhD Γ - 1) hE (by omega) (v0 + 1) v0 (0 : Int32) (fhiP_ind (p := fun q => fhiK (q + 1) = true) hv0 rfl rfl) hv0 q2 hb11) (by omega) (by decide +kernel) rfl rfl rfl (Nat.le_of_ble_eq_true rfl) rfl ?_
  show fhW fhYF Γ 128 [(2, .int (q2.1 (v0 + 1) 1)), (1, .int q1.1), (0, .ref v0)] [] q19
  refine fhW.blk fhPF fhLL hΓ [(.aload_n 0, 0), (.getfield 40, 0)] (pc' := 132) (lv' := [(2, .int (q2.1 (v0 + 1) 1)), (1, .int q1.1), (0, .ref v0)]) (st' := [.ref 9]) (σ' := q19) (by decide +kernel) rfl rfl (by rcases fhiP_or hv0 with rfl | rfl <;> rfl) ?_
  obtain ⟨q20, hb12, h⟩ := Option.bind_eq_some_iff.mp h
  refine fhW.callv hΓ mvX5_test ml_7_131 (t := 9) (ci := 5) (av := []) (rest := []) (r := none) (σ' := q20) (T_X5_testN (E := fhEn Γ) (d := fhD Γ - 1) hE (by omega) q19 hb12) (by omega) (by decide +kernel) rfl rfl rfl (Nat.le_of_ble_eq_true rfl) rfl ?_
  show fhW fhYF Γ 135 [(2, .int (q2.1 (v0 + 1) 1)), (1, .int q1.1), (0, .ref v0)] [] q20
  refine fhW.blk fhPF fhLL hΓ [(.aload_n 0, 0), (.iload_n 1, 0), (.iload_n 2, 0)] (pc' := 138) (lv' := [(2, .int (q2.1 (v0 + 1) 1)), (1, .int q1.1), (0, .ref v0)]) (st' := [.int (q2.1 (v0 + 1) 1), .int q1.1, .ref v0]) (σ' := q20) (by decide +kernel) rfl rfl rfl ?_
  refine fhW.callv hΓ mvX7_noteTest ml_7_134 (t := v0) (ci := 7) (av := [.int q1.1, .int (q2.1 (v0 + 1) 1)]) (rest := []) (r := none) (σ' := (f_X7_noteTest v0 q1.1 (q2.1 (v0 + 1) 1) q20)) (T_X7_noteTest (E := fhEn Γ) (d := fhD Γ - 1) hE (by omega) v0 q1.1 (q2.1 (v0 + 1) 1) hv0 q20) (by omega) (by decide +kernel) rfl (fhiP_g hv0) rfl (Nat.le_of_ble_eq_true rfl) rfl ?_
  show fhW fhYF Γ 141 [(2, .int (q2.1 (v0 + 1) 1)), (1, .int q1.1), (0, .ref v0)] [] (f_X7_noteTest v0 q1.1 (q2.1 (v0 + 1) 1) q20)
  obtain ⟨q21, e10, h⟩ := fhlet_elim h
  rw [← e10]
  refine fhW.sub (lv' := [(0, .ref v0)]) [2] rfl ?_
  exact L_X7_readStatement_141 hE hΓ hd v0 hv0 q21 _ h hk
set_option maxRecDepth 100000 in
theorem T_X7_readStatement {E : fhE} {d : Nat} (hE : fhEok fhYF E) (hd : 68 ≤ d) (v0 : Nat) (hv0 : fhiP v0 = true) (σ : fhM) {o : fhM} (h : f_X7_readStatement v0 σ = some o) : fhC fhYF E d miX7_readStatement [.ref v0] σ none o := by
  refine fhC.of (y := yX7_readStatement) (cc := cX7_readStatement) (nL := 3) (ret := none) 7 rfl (by decide +kernel) (Nat.le_of_ble_eq_true rfl) ?_
  intro Γ hΓ hR hD hEn
  subst hD; subst hEn
  exact L_X7_readStatement_E hE hΓ hd v0 hv0 σ _ h hR
set_option maxRecDepth 100000 in
set_option maxHeartbeats 4000000 in
theorem L_X7_readFrom_113 {Γ : fhX} (hE : fhEok fhYF (fhEn Γ)) (hΓ : fhOk fhYF 7 cX7_readFrom 5 (some .boolean) Γ) (hd : 69 ≤ fhD Γ) (v0 : Nat) (hv0 : fhiP v0 = true) (σ : fhM) (o : Bool × fhM) (h : f_X7_readFrom_113 v0 σ = some o) (hk : (fun o => fhRet Γ (some (.int (fhb o.1))) o.2) o) : fhW fhYF Γ 113 [(0, .ref v0)] [] σ := by
  unfold f_X7_readFrom_113 at h
  refine fhW.blk fhPF fhLL hΓ [(.aload_n 0, 0), (.getfield 36, 0), (.getfield 57, 0)] (pc' := 120) (lv' := [(0, .ref v0)]) (st' := [.int (σ.1 3 9)]) (σ' := σ) (by decide +kernel) rfl rfl (by rcases fhiP_or hv0 with rfl | rfl <;> rfl) ?_
  refine fhW.z_ne hΓ (tgt := 127) (show fhbk _ _ (.ifCond .ne (7)) _ = true by decide +kernel) (fun hc => ?_) (fun hc => ?_)
  · rw [if_neg hc] at h
    refine fhW.blk fhPF fhLL hΓ [(.iconst 0, 0)] (pc' := 128) (lv' := [(0, .ref v0)]) (st' := [.int (0 : Int32)]) (σ' := σ) (by decide +kernel) rfl rfl rfl ?_
    have e9 := Option.some.inj h
    subst e9
    exact fhW.zret (v := false) hΓ (by decide +kernel) hk
  · rw [if_pos hc] at h
    refine fhW.blk fhPF fhLL hΓ [(.iconst 1, 1)] (pc' := 124) (lv' := [(0, .ref v0)]) (st' := [.int (1 : Int32)]) (σ' := σ) (by decide +kernel) rfl rfl rfl ?_
    refine fhW.goto hΓ (off := 4) (tgt := 128) (by decide +kernel) ?_
    have e9 := Option.some.inj h
    subst e9
    exact fhW.zret (v := true) hΓ (by decide +kernel) hk
set_option maxRecDepth 100000 in
set_option maxHeartbeats 4000000 in
theorem L_X7_readFrom_69 {Γ : fhX} (hE : fhEok fhYF (fhEn Γ)) (hΓ : fhOk fhYF 7 cX7_readFrom 5 (some .boolean) Γ) (hd : 69 ≤ fhD Γ) (v0 : Nat) (v2 : Int32) (hv0 : fhiP v0 = true) (σ : fhM) (o : Bool × fhM) (h : f_X7_readFrom_69 v0 v2 σ = some o) (hk : (fun o => fhRet Γ (some (.int (fhb o.1))) o.2) o) : fhW fhYF Γ 69 [(0, .ref v0), (2, .int v2), (3, .ref 10)] [] σ := by
  unfold f_X7_readFrom_69 at h
  refine fhW.blk fhPF fhLL hΓ [(.aload_n 0, 0), (.getfield 36, 0), (.getfield 57, 0)] (pc' := 76) (lv' := [(0, .ref v0), (2, .int v2), (3, .ref 10)]) (st' := [.int (σ.1 3 9)]) (σ' := σ) (by decide +kernel) rfl rfl (by rcases fhiP_or hv0 with rfl | rfl <;> rfl) ?_
  refine fhW.z_ne hΓ (tgt := 113) (show fhbk _ _ (.ifCond .ne (37)) _ = true by decide +kernel) (fun hc => ?_) (fun hc => ?_)
  · rw [if_neg hc] at h
    refine fhW.sub (lv' := [(0, .ref v0)]) [0] rfl ?_
    exact L_X7_readFrom_113 hE hΓ hd v0 hv0 σ _ h hk
  · rw [if_pos hc] at h
    refine fhW.blk fhPF fhLL hΓ [(.aload_n 3, 0), (.aload_n 0, 0), (.getfield 71, 0), (.aload_n 0, 0), (.getfield 74, 0), (.aload_n 0, 0)] (pc' := 89) (lv' := [(0, .ref v0), (2, .int v2), (3, .ref 10)]) (st' := [.ref v0, .int (σ.1 v0 9), .int (σ.1 v0 14), .ref 10]) (σ' := σ) (by decide +kernel) rfl rfl (by rcases fhiP_or hv0 with rfl | rfl <;> rfl) ?_
    refine fhW.blk fhPF fhLL hΓ [(.getfield 77, 0)] (pc' := 92) (lv' := [(0, .ref v0), (2, .int v2), (3, .ref 10)]) (st' := [.int (σ.1 v0 10), .int (σ.1 v0 9), .int (σ.1 v0 14), .ref 10]) (σ' := σ) (by decide +kernel) rfl rfl (by rcases fhiP_or hv0 with rfl | rfl <;> rfl) ?_
    obtain ⟨q5, hb1, h⟩ := Option.bind_eq_some_iff.mp h
    refine fhW.callv hΓ mvX10_fillFromRow ml_7_80 (t := 10) (ci := 10) (av := [.int (σ.1 v0 14), .int (σ.1 v0 9), .int (σ.1 v0 10)]) (rest := []) (r := none) (σ' := q5) (T_X10_fillFromRow (E := fhEn Γ) (d := fhD Γ - 1) hE (by omega) (σ.1 v0 14) (σ.1 v0 9) (σ.1 v0 10) σ hb1) (by omega) (by decide +kernel) rfl rfl rfl (Nat.le_of_ble_eq_true rfl) rfl ?_
    show fhW fhYF Γ 95 [(0, .ref v0), (2, .int v2), (3, .ref 10)] [] q5
    refine fhW.blk fhPF fhLL hΓ [(.aload_n 0, 0), (.aload_n 3, 0)] (pc' := 97) (lv' := [(0, .ref v0), (2, .int v2), (3, .ref 10)]) (st' := [.ref 10, .ref v0]) (σ' := q5) (by decide +kernel) rfl rfl rfl ?_
    obtain ⟨q6, hb2, h⟩ := Option.bind_eq_some_iff.mp h
    refine fhW.callv hΓ mvX7_rulesHold ml_7_86 (t := v0) (ci := 7) (av := [.ref 10]) (rest := []) (r := (some (.int (fhb q6.1)))) (σ' := q6.2) (T_X7_rulesHold (E := fhEn Γ) (d := fhD Γ - 1) hE (by omega) v0 hv0 q5 hb2) (by omega) (by decide +kernel) rfl (fhiP_g hv0) rfl (Nat.le_of_ble_eq_true rfl) rfl ?_
    show fhW fhYF Γ 100 [(0, .ref v0), (2, .int v2), (3, .ref 10)] [.int (fhb q6.1)] q6.2
    refine fhW.b_ne hΓ (tgt := 113) (show fhbk _ _ (.ifCond .ne (13)) _ = true by decide +kernel) (fun hc => ?_) (fun hc => ?_)
    · rw [if_pos hc] at h
      refine fhW.sub (lv' := [(0, .ref v0)]) [0] rfl ?_
      exact L_X7_readFrom_113 hE hΓ hd v0 hv0 q6.2 _ h hk
    · rw [if_neg hc] at h
      refine fhW.blk fhPF fhLL hΓ [(.aload_n 0, 0), (.getfield 36, 0), (.bipush 6, 6), (.iload_n 2, 0)] (pc' := 110) (lv' := [(0, .ref v0), (2, .int v2), (3, .ref 10)]) (st' := [.int v2, .int (6 : Int32), .ref 3]) (σ' := q6.2) (by decide +kernel) rfl rfl (by rcases fhiP_or hv0 with rfl | rfl <;> rfl) ?_
      refine fhW.callv hΓ mvX8_fail ml_7_67 (t := 3) (ci := 8) (av := [.int (6 : Int32), .int v2]) (rest := []) (r := none) (σ' := (f_X8_fail (6 : Int32) v2 q6.2)) (T_X8_fail (E := fhEn Γ) (d := fhD Γ - 1) hE (by omega) (6 : Int32) v2 q6.2) (by omega) (by decide +kernel) rfl rfl rfl (Nat.le_of_ble_eq_true rfl) rfl ?_
      show fhW fhYF Γ 113 [(0, .ref v0), (2, .int v2), (3, .ref 10)] [] (f_X8_fail (6 : Int32) v2 q6.2)
      obtain ⟨q7, e1, h⟩ := fhlet_elim h
      rw [← e1]
      refine fhW.sub (lv' := [(0, .ref v0)]) [0] rfl ?_
      exact L_X7_readFrom_113 hE hΓ hd v0 hv0 q7 _ h hk
set_option maxRecDepth 100000 in
set_option maxHeartbeats 4000000 in
theorem L_X7_readFrom_53 {Γ : fhX} (hE : fhEok fhYF (fhEn Γ)) (hΓ : fhOk fhYF 7 cX7_readFrom 5 (some .boolean) Γ) (hd : 69 ≤ fhD Γ) (v0 : Nat) (v2 : Int32) (hv0 : fhiP v0 = true) (σ : fhM) (o : Bool × fhM) (h : f_X7_readFrom_53 v0 v2 σ = some o) (hk : (fun o => fhRet Γ (some (.int (fhb o.1))) o.2) o) : fhW fhYF Γ 53 [(0, .ref v0), (2, .int v2), (3, .ref 10)] [] σ := by
  unfold f_X7_readFrom_53 at h
  refine fhW.blk fhPF fhLL hΓ [(.aload_n 0, 0), (.getfield 64, 0)] (pc' := 57) (lv' := [(0, .ref v0), (2, .int v2), (3, .ref 10)]) (st' := [.int (σ.1 v0 8)]) (σ' := σ) (by decide +kernel) rfl rfl (by rcases fhiP_or hv0 with rfl | rfl <;> rfl) ?_
  refine fhW.z_ne hΓ (tgt := 69) (show fhbk _ _ (.ifCond .ne (12)) _ = true by decide +kernel) (fun hc => ?_) (fun hc => ?_)
  · rw [if_neg hc] at h
    refine fhW.sub (lv' := [(0, .ref v0), (2, .int v2), (3, .ref 10)]) [0, 1, 2] rfl ?_
    exact L_X7_readFrom_69 hE hΓ hd v0 v2 hv0 σ _ h hk
  · rw [if_pos hc] at h
    refine fhW.blk fhPF fhLL hΓ [(.aload_n 0, 0), (.getfield 36, 0), (.iconst 1, 1), (.iload_n 2, 0)] (pc' := 66) (lv' := [(0, .ref v0), (2, .int v2), (3, .ref 10)]) (st' := [.int v2, .int (1 : Int32), .ref 3]) (σ' := σ) (by decide +kernel) rfl rfl (by rcases fhiP_or hv0 with rfl | rfl <;> rfl) ?_
    refine fhW.callv hΓ mvX8_fail ml_7_67 (t := 3) (ci := 8) (av := [.int (1 : Int32), .int v2]) (rest := []) (r := none) (σ' := (f_X8_fail (1 : Int32) v2 σ)) (T_X8_fail (E := fhEn Γ) (d := fhD Γ - 1) hE (by omega) (1 : Int32) v2 σ) (by omega) (by decide +kernel) rfl rfl rfl (Nat.le_of_ble_eq_true rfl) rfl ?_
    show fhW fhYF Γ 69 [(0, .ref v0), (2, .int v2), (3, .ref 10)] [] (f_X8_fail (1 : Int32) v2 σ)
    obtain ⟨q4, e2, h⟩ := fhlet_elim h
    rw [← e2]
    refine fhW.sub (lv' := [(0, .ref v0), (2, .int v2), (3, .ref 10)]) [0, 1, 2] rfl ?_
    exact L_X7_readFrom_69 hE hΓ hd v0 v2 hv0 q4 _ h hk
set_option maxRecDepth 100000 in
set_option maxHeartbeats 4000000 in
theorem L_X7_readFrom_16 {Γ : fhX} (hE : fhEok fhYF (fhEn Γ)) (hΓ : fhOk fhYF 7 cX7_readFrom 5 (some .boolean) Γ) (hd : 69 ≤ fhD Γ) (v0 : Nat) (v2 : Int32) (v4 : Int32) (hv0 : fhiP v0 = true) (σ : fhM) (o : (Int32 × fhM) ⊕ (Bool × fhM)) (h : f_X7_readFrom_16 v0 v2 v4 σ = some o) (hk : (fhK (fun x => fhW fhYF Γ 16 [(0, .ref v0), (2, .int v2), (3, .ref 10), (4, .int x.1)] [] x.2) (fun o => fhRet Γ (some (.int (fhb o.1))) o.2)) o) : fhW fhYF Γ 16 [(0, .ref v0), (2, .int v2), (3, .ref 10), (4, .int v4)] [] σ := by
  unfold f_X7_readFrom_16 at h
  refine fhW.blk fhPF fhLL hΓ [(.iload 4, 0), (.bipush 60, 60)] (pc' := 20) (lv' := [(0, .ref v0), (2, .int v2), (3, .ref 10), (4, .int v4)]) (st' := [.int (60 : Int32), .int v4]) (σ' := σ) (by decide +kernel) rfl rfl rfl ?_
  refine fhW.i_gt hΓ (tgt := 53) (show fhbk _ _ (.if_icmp .gt (33)) _ = true by decide +kernel) (fun hc => ?_) (fun hc => ?_)
  · rw [if_pos hc] at h
    refine fhW.sub (lv' := [(0, .ref v0), (2, .int v2), (3, .ref 10)]) [0, 1, 2] rfl ?_
    obtain ⟨z1, hz, e3⟩ := Option.map_eq_some_iff.mp h
    clear h
    subst e3
    have h := hz
    have hk : (fun o => fhRet Γ (some (.int (fhb o.1))) o.2) z1 := hk
    exact L_X7_readFrom_53 hE hΓ hd v0 v2 hv0 σ _ h hk
  · rw [if_neg hc] at h
    refine fhW.blk fhPF fhLL hΓ [(.aload_n 0, 0), (.getfield 36, 0)] (pc' := 27) (lv' := [(0, .ref v0), (2, .int v2), (3, .ref 10), (4, .int v4)]) (st' := [.ref 3]) (σ' := σ) (by decide +kernel) rfl rfl (by rcases fhiP_or hv0 with rfl | rfl <;> rfl) ?_
    refine fhW.callv hΓ mvX8_isEnd ml_7_53 (t := 3) (ci := 8) (av := []) (rest := []) (r := (some (.int (fhb (f_X8_isEnd σ))))) (σ' := σ) (T_X8_isEnd (E := fhEn Γ) (d := fhD Γ - 1) hE (by omega) σ) (by omega) (by decide +kernel) rfl rfl rfl (Nat.le_of_ble_eq_true rfl) rfl ?_
    show fhW fhYF Γ 30 [(0, .ref v0), (2, .int v2), (3, .ref 10), (4, .int v4)] [.int (fhb (f_X8_isEnd σ))] σ
    refine fhW.b_ne hΓ (tgt := 53) (show fhbk _ _ (.ifCond .ne (23)) _ = true by decide +kernel) (fun hc => ?_) (fun hc => ?_)
    · rw [if_pos hc] at h
      refine fhW.sub (lv' := [(0, .ref v0), (2, .int v2), (3, .ref 10)]) [0, 1, 2] rfl ?_
      obtain ⟨z2, hz, e4⟩ := Option.map_eq_some_iff.mp h
      clear h
      subst e4
      have h := hz
      have hk : (fun o => fhRet Γ (some (.int (fhb o.1))) o.2) z2 := hk
      exact L_X7_readFrom_53 hE hΓ hd v0 v2 hv0 σ _ h hk
    · rw [if_neg hc] at h
      refine fhW.blk fhPF fhLL hΓ [(.aload_n 0, 0), (.getfield 36, 0), (.getfield 57, 0)] (pc' := 40) (lv' := [(0, .ref v0), (2, .int v2), (3, .ref 10), (4, .int v4)]) (st' := [.int (σ.1 3 9)]) (σ' := σ) (by decide +kernel) rfl rfl (by rcases fhiP_or hv0 with rfl | rfl <;> rfl) ?_
      refine fhW.z_ne hΓ (tgt := 53) (show fhbk _ _ (.ifCond .ne (13)) _ = true by decide +kernel) (fun hc => ?_) (fun hc => ?_)
      · rw [if_neg hc] at h
        refine fhW.sub (lv' := [(0, .ref v0), (2, .int v2), (3, .ref 10)]) [0, 1, 2] rfl ?_
        obtain ⟨z3, hz, e5⟩ := Option.map_eq_some_iff.mp h
        clear h
        subst e5
        have h := hz
        have hk : (fun o => fhRet Γ (some (.int (fhb o.1))) o.2) z3 := hk
        exact L_X7_readFrom_53 hE hΓ hd v0 v2 hv0 σ _ h hk
      · rw [if_pos hc] at h
        refine fhW.blk fhPF fhLL hΓ [(.aload_n 0, 0)] (pc' := 44) (lv' := [(0, .ref v0), (2, .int v2), (3, .ref 10), (4, .int v4)]) (st' := [.ref v0]) (σ' := σ) (by decide +kernel) rfl rfl rfl ?_
        obtain ⟨q3, hb3, h⟩ := Option.bind_eq_some_iff.mp h
        refine fhW.callv hΓ mvX7_readStatement ml_7_61 (t := v0) (ci := 7) (av := []) (rest := []) (r := none) (σ' := q3) (T_X7_readStatement (E := fhEn Γ) (d := fhD Γ - 1) hE (by omega) v0 hv0 σ hb3) (by omega) (by decide +kernel) rfl (fhiP_g hv0) rfl (Nat.le_of_ble_eq_true rfl) rfl ?_
        show fhW fhYF Γ 47 [(0, .ref v0), (2, .int v2), (3, .ref 10), (4, .int v4)] [] q3
        refine fhW.blk fhPF fhLL hΓ [(.iinc 4 1, 1)] (pc' := 50) (lv' := [(4, .int (v4 + (1 : Int32))), (0, .ref v0), (2, .int v2), (3, .ref 10)]) (st' := []) (σ' := q3) (by decide +kernel) rfl rfl rfl ?_
        refine fhW.goto hΓ (off := (-34)) (tgt := 16) (by decide +kernel) ?_
        refine fhW.sub (lv' := [(0, .ref v0), (2, .int v2), (3, .ref 10), (4, .int (v4 + (1 : Int32)))]) [1, 2, 3, 0] rfl ?_
        have e9 := Option.some.inj h
        subst e9
        exact hk
set_option maxRecDepth 100000 in
set_option maxHeartbeats 4000000 in
theorem L_X7_readFrom_E {Γ : fhX} (hE : fhEok fhYF (fhEn Γ)) (hΓ : fhOk fhYF 7 cX7_readFrom 5 (some .boolean) Γ) (hd : 69 ≤ fhD Γ) (v0 : Nat) (v1 : Nat) (v2 : Int32) (hv0 : fhiP v0 = true) (hv1 : fhiC v1 = true) (σ : fhM) (o : Bool × fhM) (h : f_X7_readFrom v0 v1 v2 σ = some o) (hk : (fun o => fhRet Γ (some (.int (fhb o.1))) o.2) o) : fhW fhYF Γ 0 [(0, .ref v0), (1, .ref v1), (2, .int v2), (3, .ref 10)] [] σ := by
  unfold f_X7_readFrom at h
  refine fhW.blk fhPF fhLL hΓ [(.aload_n 0, 0)] (pc' := 1) (lv' := [(0, .ref v0), (1, .ref v1), (2, .int v2), (3, .ref 10)]) (st' := [.ref v0]) (σ' := σ) (by decide +kernel) rfl rfl rfl ?_
  refine fhW.callv hΓ mvX7_forget ml_7_44 (t := v0) (ci := 7) (av := []) (rest := []) (r := none) (σ' := (f_X7_forget v0 σ)) (T_X7_forget (E := fhEn Γ) (d := fhD Γ - 1) hE (by omega) v0 hv0 σ) (by omega) (by decide +kernel) rfl (fhiP_g hv0) rfl (Nat.le_of_ble_eq_true rfl) rfl ?_
  show fhW fhYF Γ 4 [(0, .ref v0), (1, .ref v1), (2, .int v2), (3, .ref 10)] [] (f_X7_forget v0 σ)
  obtain ⟨q1, e6, h⟩ := fhlet_elim h
  rw [← e6]
  refine fhW.blk fhPF fhLL hΓ [(.aload_n 0, 0), (.getfield 36, 0), (.aload_n 1, 0), (.iload_n 2, 0)] (pc' := 10) (lv' := [(0, .ref v0), (1, .ref v1), (2, .int v2), (3, .ref 10)]) (st' := [.int v2, .ref v1, .ref 3]) (σ' := q1) (by decide +kernel) rfl rfl (by rcases fhiP_or hv0 with rfl | rfl <;> rfl) ?_
  obtain ⟨q2, hb4, h⟩ := Option.bind_eq_some_iff.mp h
  refine fhW.callv hΓ mvX8_open ml_7_47 (t := 3) (ci := 8) (av := [.ref v1, .int v2]) (rest := []) (r := none) (σ' := q2) (T_X8_open (E := fhEn Γ) (d := fhD Γ - 1) hE (by omega) v1 v2 hv1 q1 hb4) (by omega) (by decide +kernel) rfl rfl rfl (Nat.le_of_ble_eq_true rfl) rfl ?_
  show fhW fhYF Γ 13 [(0, .ref v0), (1, .ref v1), (2, .int v2), (3, .ref 10)] [] q2
  refine fhW.blk fhPF fhLL hΓ [(.iconst 0, 0), (.istore 4, 0)] (pc' := 16) (lv' := [(4, .int (0 : Int32)), (0, .ref v0), (1, .ref v1), (2, .int v2), (3, .ref 10)]) (st' := []) (σ' := q2) (by decide +kernel) rfl rfl rfl ?_
  refine fhW.sub (lv' := [(0, .ref v0), (2, .int v2), (3, .ref 10), (4, .int (0 : Int32))]) [1, 3, 4, 0] rfl ?_
  exact fhlp_ok (W := (fun x => fhW fhYF Γ 16 [(0, .ref v0), (2, .int v2), (3, .ref 10), (4, .int x.1)] [] x.2)) (B := (fun o => fhRet Γ (some (.int (fhb o.1))) o.2)) (fun x o h hk => L_X7_readFrom_16 hE hΓ hd v0 v2 x.1 hv0 x.2 o h hk) ((0 : Int32), q2) _ h hk
set_option maxRecDepth 100000 in
theorem T_X7_readFrom {E : fhE} {d : Nat} (hE : fhEok fhYF E) (hd : 69 ≤ d) (v0 : Nat) (v1 : Nat) (v2 : Int32) (hv0 : fhiP v0 = true) (hv1 : fhiC v1 = true) (σ : fhM) {o : Bool × fhM} (h : f_X7_readFrom v0 v1 v2 σ = some o) : fhC fhYF E d miX7_readFrom [.ref v0, .ref v1, .int v2, .ref 10] σ (some (.int (fhb o.1))) o.2 := by
  refine fhC.of (y := yX7_readFrom) (cc := cX7_readFrom) (nL := 5) (ret := (some .boolean)) 7 rfl (by decide +kernel) (Nat.le_of_ble_eq_true rfl) ?_
  intro Γ hΓ hR hD hEn
  subst hD; subst hEn
  exact L_X7_readFrom_E hE hΓ hd v0 v1 v2 hv0 hv1 σ _ h hR
set_option maxRecDepth 100000 in
set_option maxHeartbeats 4000000 in
theorem L_X11_parlour_E {Γ : fhX} (hE : fhEok fhYF (fhEn Γ)) (hΓ : fhOk fhYF 11 cX11_parlour 3 (some .int) Γ) (hd : 70 ≤ fhD Γ)   (σ : fhM) (o : Int32 × fhM) (h : f_X11_parlour σ = some o) (hk : (fun o => fhRet Γ (some (.int o.1)) o.2) o) : fhW fhYF Γ 0 [(0, .ref 0)] [] σ := by
  unfold f_X11_parlour at h
  refine fhW.blk fhPF fhLL hΓ [(.aload_n 0, 0), (.getfield 57, 0), (.aload_n 0, 0), (.getfield 14, 0), (.aload_n 0, 0)] (pc' := 9) (lv' := [(0, .ref 0)]) (st' := [.ref 0, .ref 1, .ref (σ.2.2 0 7)]) (σ' := σ) (by decide +kernel) rfl rfl rfl ?_
  refine fhW.callv hΓ mvX11_takeTape ml_11_120 (t := 0) (ci := 11) (av := []) (rest := [.ref 1, .ref (σ.2.2 0 7)]) (r := (some (.int (f_X11_takeTape σ).1))) (σ' := (f_X11_takeTape σ).2) (T_X11_takeTape (E := fhEn Γ) (d := fhD Γ - 1) hE (by omega) σ) (by omega) (by decide +kernel) rfl rfl rfl (Nat.le_of_ble_eq_true rfl) rfl ?_
  show fhW fhYF Γ 12 [(0, .ref 0)] [.int (f_X11_takeTape σ).1, .ref 1, .ref (σ.2.2 0 7)] (f_X11_takeTape σ).2
  obtain ⟨q1, e1, h⟩ := fhlet_elim h
  rw [← e1]
  refine fhW.blk fhPF fhLL hΓ [(.aload_n 0, 0), (.getfield 44, 0)] (pc' := 16) (lv' := [(0, .ref 0)]) (st' := [.ref 10, .int q1.1, .ref 1, .ref (σ.2.2 0 7)]) (σ' := q1.2) (by decide +kernel) rfl rfl rfl ?_
  obtain ⟨hy1, h⟩ := fhif h
  obtain ⟨q2, hb1, h⟩ := Option.bind_eq_some_iff.mp h
  refine fhW.callv hΓ mvX7_readFrom ml_11_124 (t := (σ.2.2 0 7)) (ci := 7) (av := [.ref 1, .int q1.1, .ref 10]) (rest := []) (r := (some (.int (fhb q2.1)))) (σ' := q2.2) (T_X7_readFrom (E := fhEn Γ) (d := fhD Γ - 1) hE (by omega) (σ.2.2 0 7) 1 q1.1 hy1 rfl q1.2 hb1) (by omega) (by decide +kernel) rfl (fhiP_g hy1) rfl (Nat.le_of_ble_eq_true rfl) rfl ?_
  show fhW fhYF Γ 19 [(0, .ref 0)] [.int (fhb q2.1)] q2.2
  refine fhW.blk fhPF fhLL hΓ [(.istore_n 1, 0), (.aload_n 0, 0)] (pc' := 21) (lv' := [(1, .int (fhb q2.1)), (0, .ref 0)]) (st' := [.ref 0]) (σ' := q2.2) (by decide +kernel) rfl rfl rfl ?_
  refine fhW.callv hΓ mvX11_noteFault ml_11_128 (t := 0) (ci := 11) (av := []) (rest := []) (r := none) (σ' := (f_X11_noteFault q2.2)) (T_X11_noteFault (E := fhEn Γ) (d := fhD Γ - 1) hE (by omega) q2.2) (by omega) (by decide +kernel) rfl rfl rfl (Nat.le_of_ble_eq_true rfl) rfl ?_
  show fhW fhYF Γ 24 [(1, .int (fhb q2.1)), (0, .ref 0)] [] (f_X11_noteFault q2.2)
  obtain ⟨q3, e2, h⟩ := fhlet_elim h
  rw [← e2]
  refine fhW.blk fhPF fhLL hΓ [(.iload_n 1, 0)] (pc' := 25) (lv' := [(1, .int (fhb q2.1)), (0, .ref 0)]) (st' := [.int (fhb q2.1)]) (σ' := q3) (by decide +kernel) rfl rfl rfl ?_
  refine fhW.b_ne hΓ (tgt := 34) (show fhbk _ _ (.ifCond .ne (9)) _ = true by decide +kernel) (fun hc => ?_) (fun hc => ?_)
  · rw [if_pos hc] at h
    refine fhW.blk fhPF fhLL hΓ [(.aload_n 0, 0), (.getfield 53, 0), (.astore_n 2, 0), (.aload_n 0, 0), (.aload_n 0, 0), (.getfield 57, 0), (.putfield 53, 0), (.aload_n 0, 0), (.aload_n 2, 0), (.putfield 57, 0), (.aload_n 0, 0), (.iconst 1, 1), (.putfield 131, 0), (.aload_n 0, 0), (.getfield 63, 0), (.aload_n 0, 0), (.getfield 53, 0), (.aload_n 0, 0), (.getfield 44, 0)] (pc' := 69) (lv' := [(2, .ref (q3.2.2 0 6)), (1, .int (fhb q2.1)), (0, .ref 0)]) (st' := [.ref 10, .ref (q3.2.2 0 7), .ref 39]) (σ' := (fhI (fhR (fhR q3 0 6 (q3.2.2 0 7)) 0 7 (q3.2.2 0 6)) 0 8 (1 : Int32))) (by decide +kernel) rfl rfl rfl ?_
    obtain ⟨hy2, h⟩ := fhif h
    obtain ⟨q4, hb2, h⟩ := Option.bind_eq_some_iff.mp h
    refine fhW.callv hΓ mvX9_build ml_11_135 (t := 39) (ci := 9) (av := [.ref (q3.2.2 0 7), .ref 10]) (rest := []) (r := none) (σ' := q4) (T_X9_build (E := fhEn Γ) (d := fhD Γ - 1) hE (by omega) (q3.2.2 0 7) hy2 (fhI (fhR (fhR q3 0 6 (q3.2.2 0 7)) 0 7 (q3.2.2 0 6)) 0 8 (1 : Int32)) hb2) (by omega) (by decide +kernel) rfl rfl rfl (Nat.le_of_ble_eq_true rfl) rfl ?_
    show fhW fhYF Γ 72 [(2, .ref (q3.2.2 0 6)), (1, .int (fhb q2.1)), (0, .ref 0)] [] q4
    obtain ⟨hy3, h⟩ := fhif h
    refine fhW.blk fhPF fhLL hΓ [(.aload_n 0, 0), (.getfield 72, 0), (.aload_n 0, 0), (.getfield 53, 0), (.getfield 139, 0)] (pc' := 83) (lv' := [(2, .ref (q3.2.2 0 6)), (1, .int (fhb q2.1)), (0, .ref 0)]) (st' := [.int (q4.1 (q4.2.2 0 6) 14), .ref 56]) (σ' := q4) (by decide +kernel) rfl rfl (by have hq := hy3; generalize (q4.2.2 0 6) = qq at hq ⊢; rcases fhiP_or hq with rfl | rfl <;> rfl) ?_
    obtain ⟨q5, hb3, h⟩ := Option.bind_eq_some_iff.mp h
    refine fhW.callv hΓ mvX4_begin ml_11_142 (t := 56) (ci := 4) (av := [.int (q4.1 (q4.2.2 0 6) 14)]) (rest := []) (r := none) (σ' := q5) (T_X4_begin (E := fhEn Γ) (d := fhD Γ - 1) hE (by omega) (q4.1 (q4.2.2 0 6) 14) q4 hb3) (by omega) (by decide +kernel) rfl rfl rfl (Nat.le_of_ble_eq_true rfl) rfl ?_
    show fhW fhYF Γ 86 [(2, .ref (q3.2.2 0 6)), (1, .int (fhb q2.1)), (0, .ref 0)] [] q5
    refine fhW.blk fhPF fhLL hΓ [(.aload_n 0, 0), (.getfield 79, 0)] (pc' := 90) (lv' := [(2, .ref (q3.2.2 0 6)), (1, .int (fhb q2.1)), (0, .ref 0)]) (st' := [.ref 76]) (σ' := q5) (by decide +kernel) rfl rfl rfl ?_
    refine fhW.callv hΓ mvX1_forget ml_11_145 (t := 76) (ci := 1) (av := []) (rest := []) (r := none) (σ' := (f_X1_forget q5)) (T_X1_forget (E := fhEn Γ) (d := fhD Γ - 1) hE (by omega) q5) (by omega) (by decide +kernel) rfl rfl rfl (Nat.le_of_ble_eq_true rfl) rfl ?_
    show fhW fhYF Γ 93 [(2, .ref (q3.2.2 0 6)), (1, .int (fhb q2.1)), (0, .ref 0)] [] (f_X1_forget q5)
    obtain ⟨q6, e3, h⟩ := fhlet_elim h
    rw [← e3]
    refine fhW.blk fhPF fhLL hΓ [(.aload_n 0, 0), (.getfield 86, 0)] (pc' := 97) (lv' := [(2, .ref (q3.2.2 0 6)), (1, .int (fhb q2.1)), (0, .ref 0)]) (st' := [.ref 93]) (σ' := q6) (by decide +kernel) rfl rfl rfl ?_
    refine fhW.callv hΓ mvX6_wipe ml_11_148 (t := 93) (ci := 6) (av := []) (rest := []) (r := none) (σ' := (f_X6_wipe q6)) (T_X6_wipe (E := fhEn Γ) (d := fhD Γ - 1) hE (by omega) q6) (by omega) (by decide +kernel) rfl rfl rfl (Nat.le_of_ble_eq_true rfl) rfl ?_
    show fhW fhYF Γ 100 [(2, .ref (q3.2.2 0 6)), (1, .int (fhb q2.1)), (0, .ref 0)] [] (f_X6_wipe q6)
    obtain ⟨q7, e4, h⟩ := fhlet_elim h
    rw [← e4]
    obtain ⟨hy4, h⟩ := fhif h
    refine fhW.blk fhPF fhLL hΓ [(.aload_n 0, 0), (.getfield 53, 0), (.getfield 151, 0)] (pc' := 107) (lv' := [(2, .ref (q3.2.2 0 6)), (1, .int (fhb q2.1)), (0, .ref 0)]) (st' := [.int (q7.1 (q7.2.2 0 6) 8)]) (σ' := q7) (by decide +kernel) rfl rfl (by have hq := hy4; generalize (q7.2.2 0 6) = qq at hq ⊢; rcases fhiP_or hq with rfl | rfl <;> rfl) ?_
    have e9 := Option.some.inj h
    subst e9
    exact fhW.iret hΓ (by decide +kernel) hk
  · rw [if_neg hc] at h
    refine fhW.blk fhPF fhLL hΓ [(.aload_n 0, 0), (.iconst 1, 1)] (pc' := 30) (lv' := [(1, .int (fhb q2.1)), (0, .ref 0)]) (st' := [.int (1 : Int32), .ref 0]) (σ' := q3) (by decide +kernel) rfl rfl rfl ?_
    refine fhW.callv hΓ mvX11_refuse ml_11_106 (t := 0) (ci := 11) (av := [.int (1 : Int32)]) (rest := []) (r := (some (.int (f_X11_refuse (1 : Int32) q3).1))) (σ' := (f_X11_refuse (1 : Int32) q3).2) (T_X11_refuse (E := fhEn Γ) (d := fhD Γ - 1) hE (by omega) (1 : Int32) q3) (by omega) (by decide +kernel) rfl rfl rfl (Nat.le_of_ble_eq_true rfl) rfl ?_
    show fhW fhYF Γ 33 [(1, .int (fhb q2.1)), (0, .ref 0)] [.int (f_X11_refuse (1 : Int32) q3).1] (f_X11_refuse (1 : Int32) q3).2
    obtain ⟨q8, e5, h⟩ := fhlet_elim h
    rw [← e5]
    have e9 := Option.some.inj h
    subst e9
    exact fhW.iret hΓ (by decide +kernel) hk
set_option maxRecDepth 100000 in
theorem T_X11_parlour {E : fhE} {d : Nat} (hE : fhEok fhYF E) (hd : 70 ≤ d)   (σ : fhM) {o : Int32 × fhM} (h : f_X11_parlour σ = some o) : fhC fhYF E d miX11_parlour [.ref 0] σ (some (.int o.1)) o.2 := by
  refine fhC.of (y := yX11_parlour) (cc := cX11_parlour) (nL := 3) (ret := (some .int)) 11 rfl (by decide +kernel) (Nat.le_of_ble_eq_true rfl) ?_
  intro Γ hΓ hR hD hEn
  subst hD; subst hEn
  exact L_X11_parlour_E hE hΓ hd   σ _ h hR
set_option maxRecDepth 100000 in
set_option maxHeartbeats 4000000 in
theorem L_X5_readQuestion_86 {Γ : fhX} (hE : fhEok fhYF (fhEn Γ)) (hΓ : fhOk fhYF 5 cX5_readQuestion 4 (some .int) Γ) (hd : 68 ≤ fhD Γ) (v3 : Int32)  (σ : fhM) (o : Int32 × fhM) (h : f_X5_readQuestion_86 v3 σ = some o) (hk : (fun o => fhRet Γ (some (.int o.1)) o.2) o) : fhW fhYF Γ 86 [(0, .ref 9), (3, .int v3)] [] σ := by
  unfold f_X5_readQuestion_86 at h
  refine fhW.blk fhPF fhLL hΓ [(.aload_n 0, 0), (.getfield 9, 0)] (pc' := 90) (lv' := [(0, .ref 9), (3, .int v3)]) (st' := [.ref 3]) (σ' := σ) (by decide +kernel) rfl rfl rfl ?_
  refine fhW.callv hΓ mvX8_isEnd ml_5_41 (t := 3) (ci := 8) (av := []) (rest := []) (r := (some (.int (fhb (f_X8_isEnd σ))))) (σ' := σ) (T_X8_isEnd (E := fhEn Γ) (d := fhD Γ - 1) hE (by omega) σ) (by omega) (by decide +kernel) rfl rfl rfl (Nat.le_of_ble_eq_true rfl) rfl ?_
  show fhW fhYF Γ 93 [(0, .ref 9), (3, .int v3)] [.int (fhb (f_X8_isEnd σ))] σ
  refine fhW.b_ne hΓ (tgt := 103) (show fhbk _ _ (.ifCond .ne (10)) _ = true by decide +kernel) (fun hc => ?_) (fun hc => ?_)
  · rw [if_pos hc] at h
    refine fhW.blk fhPF fhLL hΓ [(.iload_n 3, 0)] (pc' := 104) (lv' := [(0, .ref 9), (3, .int v3)]) (st' := [.int v3]) (σ' := σ) (by decide +kernel) rfl rfl rfl ?_
    have e9 := Option.some.inj h
    subst e9
    exact fhW.iret hΓ (by decide +kernel) hk
  · rw [if_neg hc] at h
    refine fhW.blk fhPF fhLL hΓ [(.aload_n 0, 0), (.getfield 9, 0)] (pc' := 100) (lv' := [(0, .ref 9), (3, .int v3)]) (st' := [.ref 3]) (σ' := σ) (by decide +kernel) rfl rfl rfl ?_
    refine fhW.callv hΓ mvX8_failHere ml_5_38 (t := 3) (ci := 8) (av := []) (rest := []) (r := none) (σ' := (f_X8_failHere σ)) (T_X8_failHere (E := fhEn Γ) (d := fhD Γ - 1) hE (by omega) σ) (by omega) (by decide +kernel) rfl rfl rfl (Nat.le_of_ble_eq_true rfl) rfl ?_
    show fhW fhYF Γ 103 [(0, .ref 9), (3, .int v3)] [] (f_X8_failHere σ)
    obtain ⟨q7, e1, h⟩ := fhlet_elim h
    rw [← e1]
    refine fhW.blk fhPF fhLL hΓ [(.iload_n 3, 0)] (pc' := 104) (lv' := [(0, .ref 9), (3, .int v3)]) (st' := [.int v3]) (σ' := q7) (by decide +kernel) rfl rfl rfl ?_
    have e9 := Option.some.inj h
    subst e9
    exact fhW.iret hΓ (by decide +kernel) hk
set_option maxRecDepth 100000 in
set_option maxHeartbeats 4000000 in
theorem L_X5_readQuestion_33 {Γ : fhX} (hE : fhEok fhYF (fhEn Γ)) (hΓ : fhOk fhYF 5 cX5_readQuestion 4 (some .int) Γ) (hd : 68 ≤ fhD Γ) (v3 : Int32)  (σ : fhM) (o : Int32 × fhM) (h : f_X5_readQuestion_33 v3 σ = some o) (hk : (fun o => fhRet Γ (some (.int o.1)) o.2) o) : fhW fhYF Γ 33 [(0, .ref 9), (3, .int v3)] [] σ := by
  unfold f_X5_readQuestion_33 at h
  refine fhW.blk fhPF fhLL hΓ [(.aload_n 0, 0), (.getfield 9, 0)] (pc' := 37) (lv' := [(0, .ref 9), (3, .int v3)]) (st' := [.ref 3]) (σ' := σ) (by decide +kernel) rfl rfl rfl ?_
  refine fhW.callv hΓ mvX8_advance ml_5_29 (t := 3) (ci := 8) (av := []) (rest := []) (r := none) (σ' := (f_X8_advance σ)) (T_X8_advance (E := fhEn Γ) (d := fhD Γ - 1) hE (by omega) σ) (by omega) (by decide +kernel) rfl rfl rfl (Nat.le_of_ble_eq_true rfl) rfl ?_
  show fhW fhYF Γ 40 [(0, .ref 9), (3, .int v3)] [] (f_X8_advance σ)
  obtain ⟨q3, e2, h⟩ := fhlet_elim h
  rw [← e2]
  refine fhW.blk fhPF fhLL hΓ [(.aload_n 0, 0)] (pc' := 41) (lv' := [(0, .ref 9), (3, .int v3)]) (st' := [.ref 9]) (σ' := q3) (by decide +kernel) rfl rfl rfl ?_
  obtain ⟨q4, hb1, h⟩ := Option.bind_eq_some_iff.mp h
  refine fhW.callv hΓ mvX5_test ml_5_32 (t := 9) (ci := 5) (av := []) (rest := []) (r := none) (σ' := q4) (T_X5_testN (E := fhEn Γ) (d := fhD Γ - 1) hE (by omega) q3 hb1) (by omega) (by decide +kernel) rfl rfl rfl (Nat.le_of_ble_eq_true rfl) rfl ?_
  show fhW fhYF Γ 44 [(0, .ref 9), (3, .int v3)] [] q4
  refine fhW.goto hΓ (off := 42) (tgt := 86) (by decide +kernel) ?_
  refine fhW.sub (lv' := [(0, .ref 9), (3, .int v3)]) [0, 1] rfl ?_
  exact L_X5_readQuestion_86 hE hΓ hd v3 q4 _ h hk
set_option maxRecDepth 100000 in
set_option maxHeartbeats 4000000 in
theorem L_X5_readQuestion_65 {Γ : fhX} (hE : fhEok fhYF (fhEn Γ)) (hΓ : fhOk fhYF 5 cX5_readQuestion 4 (some .int) Γ) (hd : 68 ≤ fhD Γ) (v3 : Int32)  (σ : fhM) (o : Int32 × fhM) (h : f_X5_readQuestion_65 v3 σ = some o) (hk : (fun o => fhRet Γ (some (.int o.1)) o.2) o) : fhW fhYF Γ 65 [(0, .ref 9), (3, .int v3)] [] σ := by
  unfold f_X5_readQuestion_65 at h
  refine fhW.blk fhPF fhLL hΓ [(.aload_n 0, 0), (.getfield 9, 0)] (pc' := 69) (lv' := [(0, .ref 9), (3, .int v3)]) (st' := [.ref 3]) (σ' := σ) (by decide +kernel) rfl rfl rfl ?_
  refine fhW.callv hΓ mvX8_advance ml_5_29 (t := 3) (ci := 8) (av := []) (rest := []) (r := none) (σ' := (f_X8_advance σ)) (T_X8_advance (E := fhEn Γ) (d := fhD Γ - 1) hE (by omega) σ) (by omega) (by decide +kernel) rfl rfl rfl (Nat.le_of_ble_eq_true rfl) rfl ?_
  show fhW fhYF Γ 72 [(0, .ref 9), (3, .int v3)] [] (f_X8_advance σ)
  obtain ⟨q5, e3, h⟩ := fhlet_elim h
  rw [← e3]
  refine fhW.blk fhPF fhLL hΓ [(.aload_n 0, 0)] (pc' := 73) (lv' := [(0, .ref 9), (3, .int v3)]) (st' := [.ref 9]) (σ' := q5) (by decide +kernel) rfl rfl rfl ?_
  obtain ⟨q6, hb2, h⟩ := Option.bind_eq_some_iff.mp h
  refine fhW.callv hΓ mvX5_sum ml_5_35 (t := 9) (ci := 5) (av := []) (rest := []) (r := none) (σ' := q6) (T_X5_sumN (E := fhEn Γ) (d := fhD Γ - 1) hE (by omega) q5 hb2) (by omega) (by decide +kernel) rfl rfl rfl (Nat.le_of_ble_eq_true rfl) rfl ?_
  show fhW fhYF Γ 76 [(0, .ref 9), (3, .int v3)] [] q6
  refine fhW.goto hΓ (off := 10) (tgt := 86) (by decide +kernel) ?_
  refine fhW.sub (lv' := [(0, .ref 9), (3, .int v3)]) [0, 1] rfl ?_
  exact L_X5_readQuestion_86 hE hΓ hd v3 q6 _ h hk
set_option maxRecDepth 100000 in
set_option maxHeartbeats 4000000 in
theorem L_X5_readQuestion_E {Γ : fhX} (hE : fhEok fhYF (fhEn Γ)) (hΓ : fhOk fhYF 5 cX5_readQuestion 4 (some .int) Γ) (hd : 68 ≤ fhD Γ) (v1 : Nat) (v2 : Nat) (hv1 : fhiK v1 = true) (hv2 : fhiP v2 = true) (σ : fhM) (o : Int32 × fhM) (h : f_X5_readQuestion v1 v2 σ = some o) (hk : (fun o => fhRet Γ (some (.int o.1)) o.2) o) : fhW fhYF Γ 0 [(0, .ref 9), (1, .ref v1), (2, .ref v2)] [] σ := by
  unfold f_X5_readQuestion at h
  refine fhW.blk fhPF fhLL hΓ [(.aload_n 0, 0), (.aload_n 1, 0), (.aload_n 2, 0), (.iconst 1, 1)] (pc' := 4) (lv' := [(0, .ref 9), (1, .ref v1), (2, .ref v2)]) (st' := [.int (1 : Int32), .ref v2, .ref v1, .ref 9]) (σ' := σ) (by decide +kernel) rfl rfl rfl ?_
  obtain ⟨q1, hb3, h⟩ := Option.bind_eq_some_iff.mp h
  refine fhW.callv hΓ mvX5_begin ml_5_19 (t := 9) (ci := 5) (av := [.ref v1, .ref v2, .int (1 : Int32)]) (rest := []) (r := none) (σ' := q1) (T_X5_begin (E := fhEn Γ) (d := fhD Γ - 1) hE (by omega) v1 v2 (1 : Int32) hv1 hv2 σ hb3) (by omega) (by decide +kernel) rfl rfl rfl (Nat.le_of_ble_eq_true rfl) rfl ?_
  show fhW fhYF Γ 7 [(0, .ref 9), (1, .ref v1), (2, .ref v2)] [] q1
  refine fhW.blk fhPF fhLL hΓ [(.aload_n 0, 0), (.getfield 9, 0)] (pc' := 11) (lv' := [(0, .ref 9), (1, .ref v1), (2, .ref v2)]) (st' := [.ref 3]) (σ' := q1) (by decide +kernel) rfl rfl rfl ?_
  refine fhW.callv hΓ mvX8_wordHere ml_5_23 (t := 3) (ci := 8) (av := []) (rest := []) (r := (some (.int (f_X8_wordHere q1)))) (σ' := q1) (T_X8_wordHere (E := fhEn Γ) (d := fhD Γ - 1) hE (by omega) q1) (by omega) (by decide +kernel) rfl rfl rfl (Nat.le_of_ble_eq_true rfl) rfl ?_
  show fhW fhYF Γ 14 [(0, .ref 9), (1, .ref v1), (2, .ref v2)] [.int (f_X8_wordHere q1)] q1
  refine fhW.blk fhPF fhLL hΓ [(.istore_n 3, 0), (.iload_n 3, 0), (.bipush 26, 26)] (pc' := 18) (lv' := [(3, .int (f_X8_wordHere q1)), (0, .ref 9), (1, .ref v1), (2, .ref v2)]) (st' := [.int (26 : Int32), .int (f_X8_wordHere q1)]) (σ' := q1) (by decide +kernel) rfl rfl rfl ?_
  refine fhW.i_eq hΓ (tgt := 33) (show fhbk _ _ (.if_icmp .eq (15)) _ = true by decide +kernel) (fun hc => ?_) (fun hc => ?_)
  · rw [if_pos hc] at h
    refine fhW.sub (lv' := [(0, .ref 9), (3, .int (f_X8_wordHere q1))]) [1, 0] rfl ?_
    exact L_X5_readQuestion_33 hE hΓ hd (f_X8_wordHere q1) q1 _ h hk
  · rw [if_neg hc] at h
    refine fhW.blk fhPF fhLL hΓ [(.iload_n 3, 0), (.bipush 27, 27)] (pc' := 24) (lv' := [(3, .int (f_X8_wordHere q1)), (0, .ref 9), (1, .ref v1), (2, .ref v2)]) (st' := [.int (27 : Int32), .int (f_X8_wordHere q1)]) (σ' := q1) (by decide +kernel) rfl rfl rfl ?_
    refine fhW.i_eq hΓ (tgt := 33) (show fhbk _ _ (.if_icmp .eq (9)) _ = true by decide +kernel) (fun hc => ?_) (fun hc => ?_)
    · rw [if_pos hc] at h
      refine fhW.sub (lv' := [(0, .ref 9), (3, .int (f_X8_wordHere q1))]) [1, 0] rfl ?_
      exact L_X5_readQuestion_33 hE hΓ hd (f_X8_wordHere q1) q1 _ h hk
    · rw [if_neg hc] at h
      refine fhW.blk fhPF fhLL hΓ [(.iload_n 3, 0), (.bipush 28, 28)] (pc' := 30) (lv' := [(3, .int (f_X8_wordHere q1)), (0, .ref 9), (1, .ref v1), (2, .ref v2)]) (st' := [.int (28 : Int32), .int (f_X8_wordHere q1)]) (σ' := q1) (by decide +kernel) rfl rfl rfl ?_
      refine fhW.i_ne hΓ (tgt := 47) (show fhbk _ _ (.if_icmp .ne (17)) _ = true by decide +kernel) (fun hc => ?_) (fun hc => ?_)
      · rw [if_neg hc] at h
        refine fhW.blk fhPF fhLL hΓ [(.iload_n 3, 0), (.bipush 29, 29)] (pc' := 50) (lv' := [(3, .int (f_X8_wordHere q1)), (0, .ref 9), (1, .ref v1), (2, .ref v2)]) (st' := [.int (29 : Int32), .int (f_X8_wordHere q1)]) (σ' := q1) (by decide +kernel) rfl rfl rfl ?_
        refine fhW.i_eq hΓ (tgt := 65) (show fhbk _ _ (.if_icmp .eq (15)) _ = true by decide +kernel) (fun hc => ?_) (fun hc => ?_)
        · rw [if_pos hc] at h
          refine fhW.sub (lv' := [(0, .ref 9), (3, .int (f_X8_wordHere q1))]) [1, 0] rfl ?_
          exact L_X5_readQuestion_65 hE hΓ hd (f_X8_wordHere q1) q1 _ h hk
        · rw [if_neg hc] at h
          refine fhW.blk fhPF fhLL hΓ [(.iload_n 3, 0), (.bipush 30, 30)] (pc' := 56) (lv' := [(3, .int (f_X8_wordHere q1)), (0, .ref 9), (1, .ref v1), (2, .ref v2)]) (st' := [.int (30 : Int32), .int (f_X8_wordHere q1)]) (σ' := q1) (by decide +kernel) rfl rfl rfl ?_
          refine fhW.i_eq hΓ (tgt := 65) (show fhbk _ _ (.if_icmp .eq (9)) _ = true by decide +kernel) (fun hc => ?_) (fun hc => ?_)
          · rw [if_pos hc] at h
            refine fhW.sub (lv' := [(0, .ref 9), (3, .int (f_X8_wordHere q1))]) [1, 0] rfl ?_
            exact L_X5_readQuestion_65 hE hΓ hd (f_X8_wordHere q1) q1 _ h hk
          · rw [if_neg hc] at h
            refine fhW.blk fhPF fhLL hΓ [(.iload_n 3, 0), (.bipush 31, 31)] (pc' := 62) (lv' := [(3, .int (f_X8_wordHere q1)), (0, .ref 9), (1, .ref v1), (2, .ref v2)]) (st' := [.int (31 : Int32), .int (f_X8_wordHere q1)]) (σ' := q1) (by decide +kernel) rfl rfl rfl ?_
            refine fhW.i_ne hΓ (tgt := 79) (show fhbk _ _ (.if_icmp .ne (17)) _ = true by decide +kernel) (fun hc => ?_) (fun hc => ?_)
            · rw [if_neg hc] at h
              refine fhW.blk fhPF fhLL hΓ [(.aload_n 0, 0), (.getfield 9, 0)] (pc' := 83) (lv' := [(3, .int (f_X8_wordHere q1)), (0, .ref 9), (1, .ref v1), (2, .ref v2)]) (st' := [.ref 3]) (σ' := q1) (by decide +kernel) rfl rfl rfl ?_
              refine fhW.callv hΓ mvX8_failHere ml_5_38 (t := 3) (ci := 8) (av := []) (rest := []) (r := none) (σ' := (f_X8_failHere q1)) (T_X8_failHere (E := fhEn Γ) (d := fhD Γ - 1) hE (by omega) q1) (by omega) (by decide +kernel) rfl rfl rfl (Nat.le_of_ble_eq_true rfl) rfl ?_
              show fhW fhYF Γ 86 [(3, .int (f_X8_wordHere q1)), (0, .ref 9), (1, .ref v1), (2, .ref v2)] [] (f_X8_failHere q1)
              obtain ⟨q2, e4, h⟩ := fhlet_elim h
              rw [← e4]
              refine fhW.sub (lv' := [(0, .ref 9), (3, .int (f_X8_wordHere q1))]) [1, 0] rfl ?_
              exact L_X5_readQuestion_86 hE hΓ hd (f_X8_wordHere q1) q2 _ h hk
            · rw [if_pos hc] at h
              refine fhW.sub (lv' := [(0, .ref 9), (3, .int (f_X8_wordHere q1))]) [1, 0] rfl ?_
              exact L_X5_readQuestion_65 hE hΓ hd (f_X8_wordHere q1) q1 _ h hk
      · rw [if_pos hc] at h
        refine fhW.sub (lv' := [(0, .ref 9), (3, .int (f_X8_wordHere q1))]) [1, 0] rfl ?_
        exact L_X5_readQuestion_33 hE hΓ hd (f_X8_wordHere q1) q1 _ h hk
set_option maxRecDepth 100000 in
theorem T_X5_readQuestion {E : fhE} {d : Nat} (hE : fhEok fhYF E) (hd : 68 ≤ d) (v1 : Nat) (v2 : Nat) (hv1 : fhiK v1 = true) (hv2 : fhiP v2 = true) (σ : fhM) {o : Int32 × fhM} (h : f_X5_readQuestion v1 v2 σ = some o) : fhC fhYF E d miX5_readQuestion [.ref 9, .ref v1, .ref v2] σ (some (.int o.1)) o.2 := by
  refine fhC.of (y := yX5_readQuestion) (cc := cX5_readQuestion) (nL := 4) (ret := (some .int)) 5 rfl (by decide +kernel) (Nat.le_of_ble_eq_true rfl) ?_
  intro Γ hΓ hR hD hEn
  subst hD; subst hEn
  exact L_X5_readQuestion_E hE hΓ hd v1 v2 hv1 hv2 σ _ h hR
set_option maxRecDepth 100000 in
set_option maxHeartbeats 4000000 in
theorem L_X11_ask_E {Γ : fhX} (hE : fhEok fhYF (fhEn Γ)) (hΓ : fhOk fhYF 11 cX11_ask 3 (some .long) Γ) (hd : 69 ≤ fhD Γ)   (σ : fhM) (o : Int64 × fhM) (h : f_X11_ask σ = some o) (hk : (fun o => fhRet Γ (some (.long o.1)) o.2) o) : fhW fhYF Γ 0 [(0, .ref 0)] [] σ := by
  unfold f_X11_ask at h
  refine fhW.blk fhPF fhLL hΓ [(.aload_n 0, 0)] (pc' := 1) (lv' := [(0, .ref 0)]) (st' := [.ref 0]) (σ' := σ) (by decide +kernel) rfl rfl rfl ?_
  refine fhW.callv hΓ mvX11_takeTape ml_11_120 (t := 0) (ci := 11) (av := []) (rest := []) (r := (some (.int (f_X11_takeTape σ).1))) (σ' := (f_X11_takeTape σ).2) (T_X11_takeTape (E := fhEn Γ) (d := fhD Γ - 1) hE (by omega) σ) (by omega) (by decide +kernel) rfl rfl rfl (Nat.le_of_ble_eq_true rfl) rfl ?_
  show fhW fhYF Γ 4 [(0, .ref 0)] [.int (f_X11_takeTape σ).1] (f_X11_takeTape σ).2
  obtain ⟨q1, e1, h⟩ := fhlet_elim h
  rw [← e1]
  refine fhW.blk fhPF fhLL hΓ [(.istore_n 1, 0), (.aload_n 0, 0), (.getfield 131, 0)] (pc' := 9) (lv' := [(1, .int q1.1), (0, .ref 0)]) (st' := [.int (q1.2.1 0 8)]) (σ' := q1.2) (by decide +kernel) rfl rfl rfl ?_
  refine fhW.z_ne hΓ (tgt := 16) (show fhbk _ _ (.ifCond .ne (7)) _ = true by decide +kernel) (fun hc => ?_) (fun hc => ?_)
  · rw [if_neg hc] at h
    refine fhW.blk fhPF fhLL hΓ [(.aload_n 0, 0), (.getfield 28, 0), (.iconst 0, 0), (.putfield 357, 0), (.aload_n 0, 0), (.getfield 21, 0), (.aload_n 0, 0), (.getfield 14, 0), (.iload_n 1, 0)] (pc' := 33) (lv' := [(1, .int q1.1), (0, .ref 0)]) (st' := [.int q1.1, .ref 1, .ref 3]) (σ' := (fhI q1.2 6 1 (0 : Int32))) (by decide +kernel) rfl rfl rfl ?_
    obtain ⟨q2, hb1, h⟩ := Option.bind_eq_some_iff.mp h
    refine fhW.callv hΓ mvX8_open ml_11_360 (t := 3) (ci := 8) (av := [.ref 1, .int q1.1]) (rest := []) (r := none) (σ' := q2) (T_X8_open (E := fhEn Γ) (d := fhD Γ - 1) hE (by omega) 1 q1.1 rfl (fhI q1.2 6 1 (0 : Int32)) hb1) (by omega) (by decide +kernel) rfl rfl rfl (Nat.le_of_ble_eq_true rfl) rfl ?_
    show fhW fhYF Γ 36 [(1, .int q1.1), (0, .ref 0)] [] q2
    refine fhW.blk fhPF fhLL hΓ [(.aload_n 0, 0), (.getfield 37, 0), (.aload_n 0, 0), (.getfield 28, 0), (.aload_n 0, 0), (.getfield 53, 0)] (pc' := 48) (lv' := [(1, .int q1.1), (0, .ref 0)]) (st' := [.ref (q2.2.2 0 6), .ref 6, .ref 9]) (σ' := q2) (by decide +kernel) rfl rfl rfl ?_
    obtain ⟨hy1, h⟩ := fhif h
    obtain ⟨q3, hb2, h⟩ := Option.bind_eq_some_iff.mp h
    refine fhW.callv hΓ mvX5_readQuestion ml_11_363 (t := 9) (ci := 5) (av := [.ref 6, .ref (q2.2.2 0 6)]) (rest := []) (r := (some (.int q3.1))) (σ' := q3.2) (T_X5_readQuestion (E := fhEn Γ) (d := fhD Γ - 1) hE (by omega) 6 (q2.2.2 0 6) rfl hy1 q2 hb2) (by omega) (by decide +kernel) rfl rfl rfl (Nat.le_of_ble_eq_true rfl) rfl ?_
    show fhW fhYF Γ 51 [(1, .int q1.1), (0, .ref 0)] [.int q3.1] q3.2
    refine fhW.blk fhPF fhLL hΓ [(.istore_n 2, 0), (.aload_n 0, 0)] (pc' := 53) (lv' := [(2, .int q3.1), (1, .int q1.1), (0, .ref 0)]) (st' := [.ref 0]) (σ' := q3.2) (by decide +kernel) rfl rfl rfl ?_
    refine fhW.callv hΓ mvX11_noteFault ml_11_128 (t := 0) (ci := 11) (av := []) (rest := []) (r := none) (σ' := (f_X11_noteFault q3.2)) (T_X11_noteFault (E := fhEn Γ) (d := fhD Γ - 1) hE (by omega) q3.2) (by omega) (by decide +kernel) rfl rfl rfl (Nat.le_of_ble_eq_true rfl) rfl ?_
    show fhW fhYF Γ 56 [(2, .int q3.1), (1, .int q1.1), (0, .ref 0)] [] (f_X11_noteFault q3.2)
    obtain ⟨q4, e2, h⟩ := fhlet_elim h
    rw [← e2]
    refine fhW.blk fhPF fhLL hΓ [(.aload_n 0, 0), (.getfield 157, 0)] (pc' := 60) (lv' := [(2, .int q3.1), (1, .int q1.1), (0, .ref 0)]) (st' := [.int (q4.1 0 17)]) (σ' := q4) (by decide +kernel) rfl rfl rfl ?_
    refine fhW.z_ne hΓ (tgt := 71) (show fhbk _ _ (.ifCond .ne (11)) _ = true by decide +kernel) (fun hc => ?_) (fun hc => ?_)
    · rw [if_neg hc] at h
      refine fhW.blk fhPF fhLL hΓ [(.ldc2_w 355, 0)] (pc' := 74) (lv' := [(2, .int q3.1), (1, .int q1.1), (0, .ref 0)]) (st' := [.long (-1000000000000000 : Int64)]) (σ' := q4) (by decide +kernel) rfl rfl rfl ?_
      have e9 := Option.some.inj h
      subst e9
      exact fhW.lret hΓ (by decide +kernel) hk
    · rw [if_pos hc] at h
      refine fhW.blk fhPF fhLL hΓ [(.aload_n 0, 0), (.iload_n 2, 0)] (pc' := 65) (lv' := [(2, .int q3.1), (1, .int q1.1), (0, .ref 0)]) (st' := [.int q3.1, .ref 0]) (σ' := q4) (by decide +kernel) rfl rfl rfl ?_
      obtain ⟨q5, hb3, h⟩ := Option.bind_eq_some_iff.mp h
      refine fhW.callv hΓ mvX11_answer ml_11_367 (t := 0) (ci := 11) (av := [.int q3.1]) (rest := []) (r := (some (.long q5.1))) (σ' := q5.2) (T_X11_answer (E := fhEn Γ) (d := fhD Γ - 1) hE (by omega) q3.1 q4 hb3) (by omega) (by decide +kernel) rfl rfl rfl (Nat.le_of_ble_eq_true rfl) rfl ?_
      show fhW fhYF Γ 68 [(2, .int q3.1), (1, .int q1.1), (0, .ref 0)] [.long q5.1] q5.2
      refine fhW.goto hΓ (off := 6) (tgt := 74) (by decide +kernel) ?_
      have e9 := Option.some.inj h
      subst e9
      exact fhW.lret hΓ (by decide +kernel) hk
  · rw [if_pos hc] at h
    refine fhW.blk fhPF fhLL hΓ [(.ldc2_w 355, 0)] (pc' := 15) (lv' := [(1, .int q1.1), (0, .ref 0)]) (st' := [.long (-1000000000000000 : Int64)]) (σ' := q1.2) (by decide +kernel) rfl rfl rfl ?_
    have e9 := Option.some.inj h
    subst e9
    exact fhW.lret hΓ (by decide +kernel) hk
set_option maxRecDepth 100000 in
theorem T_X11_ask {E : fhE} {d : Nat} (hE : fhEok fhYF E) (hd : 69 ≤ d)   (σ : fhM) {o : Int64 × fhM} (h : f_X11_ask σ = some o) : fhC fhYF E d miX11_ask [.ref 0] σ (some (.long o.1)) o.2 := by
  refine fhC.of (y := yX11_ask) (cc := cX11_ask) (nL := 3) (ret := (some .long)) 11 rfl (by decide +kernel) (Nat.le_of_ble_eq_true rfl) ?_
  intro Γ hΓ hR hD hEn
  subst hD; subst hEn
  exact L_X11_ask_E hE hΓ hd   σ _ h hR

