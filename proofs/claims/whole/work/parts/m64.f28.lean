set_option maxRecDepth 100000 in
set_option maxHeartbeats 4000000 in
theorem L_X5_readTest_E {Γ : fhX} (hE : fhEok fhYF (fhEn Γ)) (hΓ : fhOk fhYF 5 cX5_readTest 3 none Γ) (hd : 68 ≤ fhD Γ) (v1 : Nat) (v2 : Nat) (hv1 : fhiK v1 = true) (hv2 : fhiP v2 = true) (σ : fhM) (o : fhM) (h : f_X5_readTest v1 v2 σ = some o) (hk : (fun o => fhRet Γ none o) o) : fhW fhYF Γ 0 [(0, .ref 9), (1, .ref v1), (2, .ref v2)] [] σ := by
  unfold f_X5_readTest at h
  refine fhW.blk fhPF fhLL hΓ [(.aload_n 0, 0), (.aload_n 1, 0), (.aload_n 2, 0), (.iconst 0, 0)] (pc' := 4) (lv' := [(0, .ref 9), (1, .ref v1), (2, .ref v2)]) (st' := [.int (0 : Int32), .ref v2, .ref v1, .ref 9]) (σ' := σ) (by decide +kernel) rfl rfl rfl ?_
  obtain ⟨q1, hb1, h⟩ := Option.bind_eq_some_iff.mp h
  refine fhW.callv hΓ mvX5_begin ml_5_19 (t := 9) (ci := 5) (av := [.ref v1, .ref v2, .int (0 : Int32)]) (rest := []) (r := none) (σ' := q1) (T_X5_begin (E := fhEn Γ) (d := fhD Γ - 1) hE (by omega) v1 v2 (0 : Int32) hv1 hv2 σ hb1) (by omega) (by decide +kernel) rfl rfl rfl (Nat.le_of_ble_eq_true rfl) rfl ?_
  show fhW fhYF Γ 7 [(0, .ref 9), (1, .ref v1), (2, .ref v2)] [] q1
  refine fhW.blk fhPF fhLL hΓ [(.aload_n 0, 0)] (pc' := 8) (lv' := [(0, .ref 9), (1, .ref v1), (2, .ref v2)]) (st' := [.ref 9]) (σ' := q1) (by decide +kernel) rfl rfl rfl ?_
  obtain ⟨q2, hb2, h⟩ := Option.bind_eq_some_iff.mp h
  refine fhW.callv hΓ mvX5_test ml_5_32 (t := 9) (ci := 5) (av := []) (rest := []) (r := none) (σ' := q2) (T_X5_testN (E := fhEn Γ) (d := fhD Γ - 1) hE (by omega) q1 hb2) (by omega) (by decide +kernel) rfl rfl rfl (Nat.le_of_ble_eq_true rfl) rfl ?_
  show fhW fhYF Γ 11 [(0, .ref 9), (1, .ref v1), (2, .ref v2)] [] q2
  have e9 := Option.some.inj h
  subst e9
  exact fhW.vret hΓ (by decide +kernel) hk
set_option maxRecDepth 100000 in
theorem T_X5_readTest {E : fhE} {d : Nat} (hE : fhEok fhYF E) (hd : 68 ≤ d) (v1 : Nat) (v2 : Nat) (hv1 : fhiK v1 = true) (hv2 : fhiP v2 = true) (σ : fhM) {o : fhM} (h : f_X5_readTest v1 v2 σ = some o) : fhC fhYF E d miX5_readTest [.ref 9, .ref v1, .ref v2] σ none o := by
  refine fhC.of (y := yX5_readTest) (cc := cX5_readTest) (nL := 3) (ret := none) 5 rfl (by decide +kernel) (Nat.le_of_ble_eq_true rfl) ?_
  intro Γ hΓ hR hD hEn
  subst hD; subst hEn
  exact L_X5_readTest_E hE hΓ hd v1 v2 hv1 hv2 σ _ h hR
set_option maxRecDepth 100000 in
set_option maxHeartbeats 4000000 in
theorem L_X7_readStatement_133 {Γ : fhX} (hE : fhEok fhYF (fhEn Γ)) (hΓ : fhOk fhYF 7 cX7_readStatement 3 none Γ) (hd : 69 ≤ fhD Γ) (v0 : Nat) (hv0 : fhiP v0 = true) (σ : fhM) (o : fhM) (h : f_X7_readStatement_133 v0 σ = some o) (hk : (fun o => fhRet Γ none o) o) : fhW fhYF Γ 133 [(0, .ref v0)] [] σ := by
  unfold f_X7_readStatement_133 at h
  refine fhW.blk fhPF fhLL hΓ [(.aload_n 0, 0), (.getfield 36, 0), (.bipush 59, 59)] (pc' := 139) (lv' := [(0, .ref v0)]) (st' := [.int (59 : Int32), .ref 3]) (σ' := σ) (by decide +kernel) rfl rfl (by rcases fhiP_or hv0 with rfl | rfl <;> rfl) ?_
  refine fhW.callv hΓ mvX8_takeSign ml_7_127 (t := 3) (ci := 8) (av := [.int (59 : Int32)]) (rest := []) (r := none) (σ' := (f_X8_takeSign (59 : Int32) σ)) (T_X8_takeSign (E := fhEn Γ) (d := fhD Γ - 1) hE (by omega) (59 : Int32) σ) (by omega) (by decide +kernel) rfl rfl rfl (Nat.le_of_ble_eq_true rfl) rfl ?_
  show fhW fhYF Γ 142 [(0, .ref v0)] [] (f_X8_takeSign (59 : Int32) σ)
  obtain ⟨q17, e1, h⟩ := fhlet_elim h
  rw [← e1]
  refine fhW.blk fhPF fhLL hΓ [(.aload_n 0, 0), (.dup, 0), (.getfield 53, 0), (.iconst 1, 1), (.iadd, 0), (.putfield 53, 0)] (pc' := 152) (lv' := [(0, .ref v0)]) (st' := []) (σ' := (fhI q17 v0 8 ((q17.1 v0 8) + (1 : Int32)))) (by decide +kernel) rfl rfl (by rcases fhiP_or hv0 with rfl | rfl <;> rfl) ?_
  have e9 := Option.some.inj h
  subst e9
  exact fhW.vret hΓ (by decide +kernel) hk
set_option maxRecDepth 100000 in
set_option maxHeartbeats 4000000 in
theorem L_X7_readStatement_E {Γ : fhX} (hE : fhEok fhYF (fhEn Γ)) (hΓ : fhOk fhYF 7 cX7_readStatement 3 none Γ) (hd : 69 ≤ fhD Γ) (v0 : Nat) (hv0 : fhiP v0 = true) (σ : fhM) (o : fhM) (h : f_X7_readStatement v0 σ = some o) (hk : (fun o => fhRet Γ none o) o) : fhW fhYF Γ 0 [(0, .ref v0)] [] σ := by
  unfold f_X7_readStatement at h
  refine fhW.blk fhPF fhLL hΓ [(.aload_n 0, 0)] (pc' := 1) (lv' := [(0, .ref v0)]) (st' := [.ref v0]) (σ' := σ) (by decide +kernel) rfl rfl rfl ?_
  refine fhW.callv hΓ mvX7_statementWord ml_7_100 (t := v0) (ci := 7) (av := []) (rest := []) (r := (some (.int (f_X7_statementWord v0 σ).1))) (σ' := (f_X7_statementWord v0 σ).2) (T_X7_statementWord (E := fhEn Γ) (d := fhD Γ - 1) hE (by omega) v0 hv0 σ) (by omega) (by decide +kernel) rfl (fhiP_g hv0) rfl (Nat.le_of_ble_eq_true rfl) rfl ?_
  show fhW fhYF Γ 4 [(0, .ref v0)] [.int (f_X7_statementWord v0 σ).1] (f_X7_statementWord v0 σ).2
  obtain ⟨q1, e2, h⟩ := fhlet_elim h
  rw [← e2]
  refine fhW.blk fhPF fhLL hΓ [(.istore_n 1, 0), (.aload_n 0, 0), (.getfield 36, 0)] (pc' := 9) (lv' := [(1, .int q1.1), (0, .ref v0)]) (st' := [.ref 3]) (σ' := q1.2) (by decide +kernel) rfl rfl (by rcases fhiP_or hv0 with rfl | rfl <;> rfl) ?_
  refine fhW.callv hΓ mvX8_advance ml_7_104 (t := 3) (ci := 8) (av := []) (rest := []) (r := none) (σ' := (f_X8_advance q1.2)) (T_X8_advance (E := fhEn Γ) (d := fhD Γ - 1) hE (by omega) q1.2) (by omega) (by decide +kernel) rfl rfl rfl (Nat.le_of_ble_eq_true rfl) rfl ?_
  show fhW fhYF Γ 12 [(1, .int q1.1), (0, .ref v0)] [] (f_X8_advance q1.2)
  obtain ⟨q2, e3, h⟩ := fhlet_elim h
  rw [← e3]
  refine fhW.blk fhPF fhLL hΓ [(.iload_n 1, 0)] (pc' := 13) (lv' := [(1, .int q1.1), (0, .ref v0)]) (st' := [.int q1.1]) (σ' := q2) (by decide +kernel) rfl rfl rfl ?_
  refine fhW.tsw hΓ (dflt := 94) (lo := 0) (hi := 7) (offs := #[47, 63, 94, 70, 94, 94, 94, 77]) (len := 47) (td := 107) [(0, 60), (1, 76), (2, 107), (3, 83), (4, 107), (5, 107), (6, 107), (7, 90)] (by decide +kernel) ?_
  refine fhsw_c (fun hc => ?_) (fun hc => ?_)
  · rw [if_pos hc] at h
    refine fhW.blk fhPF fhLL hΓ [(.aload_n 0, 0), (.aload_n 0, 0), (.getfield 36, 0), (.iconst 2, 2), (.iconst 4, 4)] (pc' := 67) (lv' := [(1, .int q1.1), (0, .ref v0)]) (st' := [.int (4 : Int32), .int (2 : Int32), .ref 3, .ref v0]) (σ' := q2) (by decide +kernel) rfl rfl (by rcases fhiP_or hv0 with rfl | rfl <;> rfl) ?_
    refine fhW.callv hΓ mvX8_takeNumberWithin ml_7_107 (t := 3) (ci := 8) (av := [.int (2 : Int32), .int (4 : Int32)]) (rest := [.ref v0]) (r := (some (.int (f_X8_takeNumberWithin (2 : Int32) (4 : Int32) q2).1))) (σ' := (f_X8_takeNumberWithin (2 : Int32) (4 : Int32) q2).2) (T_X8_takeNumberWithin (E := fhEn Γ) (d := fhD Γ - 1) hE (by omega) (2 : Int32) (4 : Int32) q2) (by omega) (by decide +kernel) rfl rfl rfl (Nat.le_of_ble_eq_true rfl) rfl ?_
    show fhW fhYF Γ 70 [(1, .int q1.1), (0, .ref v0)] [.int (f_X8_takeNumberWithin (2 : Int32) (4 : Int32) q2).1, .ref v0] (f_X8_takeNumberWithin (2 : Int32) (4 : Int32) q2).2
    obtain ⟨q3, e4, h⟩ := fhlet_elim h
    rw [← e4]
    refine fhW.blk fhPF fhLL hΓ [(.putfield 66, 0)] (pc' := 73) (lv' := [(1, .int q1.1), (0, .ref v0)]) (st' := []) (σ' := (fhI q3.2 v0 9 q3.1)) (by decide +kernel) rfl rfl (by rcases fhiP_or hv0 with rfl | rfl <;> rfl) ?_
    refine fhW.goto hΓ (off := 60) (tgt := 133) (by decide +kernel) ?_
    refine fhW.sub (lv' := [(0, .ref v0)]) [1] rfl ?_
    exact L_X7_readStatement_133 hE hΓ hd v0 hv0 (fhI q3.2 v0 9 q3.1) _ h hk
  rw [if_neg hc] at h
  refine fhsw_c (fun hc => ?_) (fun hc => ?_)
  · rw [if_pos hc] at h
    refine fhW.blk fhPF fhLL hΓ [(.aload_n 0, 0)] (pc' := 77) (lv' := [(1, .int q1.1), (0, .ref v0)]) (st' := [.ref v0]) (σ' := q2) (by decide +kernel) rfl rfl rfl ?_
    obtain ⟨q4, hb1, h⟩ := Option.bind_eq_some_iff.mp h
    refine fhW.callv hΓ mvX7_readGuest ml_7_111 (t := v0) (ci := 7) (av := []) (rest := []) (r := none) (σ' := q4) (T_X7_readGuest (E := fhEn Γ) (d := fhD Γ - 1) hE (by omega) v0 hv0 q2 hb1) (by omega) (by decide +kernel) rfl (fhiP_g hv0) rfl (Nat.le_of_ble_eq_true rfl) rfl ?_
    show fhW fhYF Γ 80 [(1, .int q1.1), (0, .ref v0)] [] q4
    refine fhW.goto hΓ (off := 53) (tgt := 133) (by decide +kernel) ?_
    refine fhW.sub (lv' := [(0, .ref v0)]) [1] rfl ?_
    exact L_X7_readStatement_133 hE hΓ hd v0 hv0 q4 _ h hk
  rw [if_neg hc] at h
  refine fhsw_c (fun hc => ?_) (fun hc => ?_)
  · rw [if_pos hc] at h
    refine fhW.blk fhPF fhLL hΓ [(.aload_n 0, 0), (.getfield 12, 0), (.getfield 94, 0), (.istore_n 2, 0), (.aload_n 0, 0), (.getfield 40, 0)] (pc' := 119) (lv' := [(2, .int (q2.1 (v0 + 1) 1)), (1, .int q1.1), (0, .ref v0)]) (st' := [.ref 9]) (σ' := q2) (by decide +kernel) rfl rfl (by rcases fhiP_or hv0 with rfl | rfl <;> rfl) ?_
    refine fhW.blk fhPF fhLL hΓ [(.aload_n 0, 0), (.getfield 12, 0), (.aload_n 0, 0)] (pc' := 124) (lv' := [(2, .int (q2.1 (v0 + 1) 1)), (1, .int q1.1), (0, .ref v0)]) (st' := [.ref v0, .ref (v0 + 1), .ref 9]) (σ' := q2) (by decide +kernel) rfl rfl (by rcases fhiP_or hv0 with rfl | rfl <;> rfl) ?_
    obtain ⟨q5, hb2, h⟩ := Option.bind_eq_some_iff.mp h
    refine fhW.callv hΓ mvX5_readTest ml_7_117 (t := 9) (ci := 5) (av := [.ref (v0 + 1), .ref v0]) (rest := []) (r := none) (σ' := q5) (T_X5_readTest (E := fhEn Γ) (d := fhD Γ - 1) hE (by omega) (v0 + 1) v0 (fhiP_ind (p := fun q => fhiK (q + 1) = true) hv0 rfl rfl) hv0 q2 hb2) (by omega) (by decide +kernel) rfl rfl rfl (Nat.le_of_ble_eq_true rfl) rfl ?_
    show fhW fhYF Γ 127 [(2, .int (q2.1 (v0 + 1) 1)), (1, .int q1.1), (0, .ref v0)] [] q5
    refine fhW.blk fhPF fhLL hΓ [(.aload_n 0, 0), (.iload_n 1, 0), (.iload_n 2, 0)] (pc' := 130) (lv' := [(2, .int (q2.1 (v0 + 1) 1)), (1, .int q1.1), (0, .ref v0)]) (st' := [.int (q2.1 (v0 + 1) 1), .int q1.1, .ref v0]) (σ' := q5) (by decide +kernel) rfl rfl rfl ?_
    refine fhW.callv hΓ mvX7_noteTest ml_7_123 (t := v0) (ci := 7) (av := [.int q1.1, .int (q2.1 (v0 + 1) 1)]) (rest := []) (r := none) (σ' := (f_X7_noteTest v0 q1.1 (q2.1 (v0 + 1) 1) q5)) (T_X7_noteTest (E := fhEn Γ) (d := fhD Γ - 1) hE (by omega) v0 q1.1 (q2.1 (v0 + 1) 1) hv0 q5) (by omega) (by decide +kernel) rfl (fhiP_g hv0) rfl (Nat.le_of_ble_eq_true rfl) rfl ?_
    show fhW fhYF Γ 133 [(2, .int (q2.1 (v0 + 1) 1)), (1, .int q1.1), (0, .ref v0)] [] (f_X7_noteTest v0 q1.1 (q2.1 (v0 + 1) 1) q5)
    obtain ⟨q6, e5, h⟩ := fhlet_elim h
    rw [← e5]
    refine fhW.sub (lv' := [(0, .ref v0)]) [2] rfl ?_
    exact L_X7_readStatement_133 hE hΓ hd v0 hv0 q6 _ h hk
  rw [if_neg hc] at h
  refine fhsw_c (fun hc => ?_) (fun hc => ?_)
  · rw [if_pos hc] at h
    refine fhW.blk fhPF fhLL hΓ [(.aload_n 0, 0)] (pc' := 84) (lv' := [(1, .int q1.1), (0, .ref v0)]) (st' := [.ref v0]) (σ' := q2) (by decide +kernel) rfl rfl rfl ?_
    obtain ⟨q7, hb3, h⟩ := Option.bind_eq_some_iff.mp h
    refine fhW.callv hΓ mvX7_readBlind ml_7_114 (t := v0) (ci := 7) (av := []) (rest := []) (r := none) (σ' := q7) (T_X7_readBlind (E := fhEn Γ) (d := fhD Γ - 1) hE (by omega) v0 hv0 q2 hb3) (by omega) (by decide +kernel) rfl (fhiP_g hv0) rfl (Nat.le_of_ble_eq_true rfl) rfl ?_
    show fhW fhYF Γ 87 [(1, .int q1.1), (0, .ref v0)] [] q7
    refine fhW.goto hΓ (off := 46) (tgt := 133) (by decide +kernel) ?_
    refine fhW.sub (lv' := [(0, .ref v0)]) [1] rfl ?_
    exact L_X7_readStatement_133 hE hΓ hd v0 hv0 q7 _ h hk
  rw [if_neg hc] at h
  refine fhsw_c (fun hc => ?_) (fun hc => ?_)
  · rw [if_pos hc] at h
    refine fhW.blk fhPF fhLL hΓ [(.aload_n 0, 0), (.getfield 12, 0), (.getfield 94, 0), (.istore_n 2, 0), (.aload_n 0, 0), (.getfield 40, 0)] (pc' := 119) (lv' := [(2, .int (q2.1 (v0 + 1) 1)), (1, .int q1.1), (0, .ref v0)]) (st' := [.ref 9]) (σ' := q2) (by decide +kernel) rfl rfl (by rcases fhiP_or hv0 with rfl | rfl <;> rfl) ?_
    refine fhW.blk fhPF fhLL hΓ [(.aload_n 0, 0), (.getfield 12, 0), (.aload_n 0, 0)] (pc' := 124) (lv' := [(2, .int (q2.1 (v0 + 1) 1)), (1, .int q1.1), (0, .ref v0)]) (st' := [.ref v0, .ref (v0 + 1), .ref 9]) (σ' := q2) (by decide +kernel) rfl rfl (by rcases fhiP_or hv0 with rfl | rfl <;> rfl) ?_
    obtain ⟨q8, hb4, h⟩ := Option.bind_eq_some_iff.mp h
    refine fhW.callv hΓ mvX5_readTest ml_7_117 (t := 9) (ci := 5) (av := [.ref (v0 + 1), .ref v0]) (rest := []) (r := none) (σ' := q8) (T_X5_readTest (E := fhEn Γ) (d := fhD Γ - 1) hE (by omega) (v0 + 1) v0 (fhiP_ind (p := fun q => fhiK (q + 1) = true) hv0 rfl rfl) hv0 q2 hb4) (by omega) (by decide +kernel) rfl rfl rfl (Nat.le_of_ble_eq_true rfl) rfl ?_
    show fhW fhYF Γ 127 [(2, .int (q2.1 (v0 + 1) 1)), (1, .int q1.1), (0, .ref v0)] [] q8
    refine fhW.blk fhPF fhLL hΓ [(.aload_n 0, 0), (.iload_n 1, 0), (.iload_n 2, 0)] (pc' := 130) (lv' := [(2, .int (q2.1 (v0 + 1) 1)), (1, .int q1.1), (0, .ref v0)]) (st' := [.int (q2.1 (v0 + 1) 1), .int q1.1, .ref v0]) (σ' := q8) (by decide +kernel) rfl rfl rfl ?_
    refine fhW.callv hΓ mvX7_noteTest ml_7_123 (t := v0) (ci := 7) (av := [.int q1.1, .int (q2.1 (v0 + 1) 1)]) (rest := []) (r := none) (σ' := (f_X7_noteTest v0 q1.1 (q2.1 (v0 + 1) 1) q8)) (T_X7_noteTest (E := fhEn Γ) (d := fhD Γ - 1) hE (by omega) v0 q1.1 (q2.1 (v0 + 1) 1) hv0 q8) (by omega) (by decide +kernel) rfl (fhiP_g hv0) rfl (Nat.le_of_ble_eq_true rfl) rfl ?_
    show fhW fhYF Γ 133 [(2, .int (q2.1 (v0 + 1) 1)), (1, .int q1.1), (0, .ref v0)] [] (f_X7_noteTest v0 q1.1 (q2.1 (v0 + 1) 1) q8)
    obtain ⟨q9, e6, h⟩ := fhlet_elim h
    rw [← e6]
    refine fhW.sub (lv' := [(0, .ref v0)]) [2] rfl ?_
    exact L_X7_readStatement_133 hE hΓ hd v0 hv0 q9 _ h hk
  rw [if_neg hc] at h
  refine fhsw_c (fun hc => ?_) (fun hc => ?_)
  · rw [if_pos hc] at h
    refine fhW.blk fhPF fhLL hΓ [(.aload_n 0, 0), (.getfield 12, 0), (.getfield 94, 0), (.istore_n 2, 0), (.aload_n 0, 0), (.getfield 40, 0)] (pc' := 119) (lv' := [(2, .int (q2.1 (v0 + 1) 1)), (1, .int q1.1), (0, .ref v0)]) (st' := [.ref 9]) (σ' := q2) (by decide +kernel) rfl rfl (by rcases fhiP_or hv0 with rfl | rfl <;> rfl) ?_
    refine fhW.blk fhPF fhLL hΓ [(.aload_n 0, 0), (.getfield 12, 0), (.aload_n 0, 0)] (pc' := 124) (lv' := [(2, .int (q2.1 (v0 + 1) 1)), (1, .int q1.1), (0, .ref v0)]) (st' := [.ref v0, .ref (v0 + 1), .ref 9]) (σ' := q2) (by decide +kernel) rfl rfl (by rcases fhiP_or hv0 with rfl | rfl <;> rfl) ?_
    obtain ⟨q10, hb5, h⟩ := Option.bind_eq_some_iff.mp h
    refine fhW.callv hΓ mvX5_readTest ml_7_117 (t := 9) (ci := 5) (av := [.ref (v0 + 1), .ref v0]) (rest := []) (r := none) (σ' := q10) (T_X5_readTest (E := fhEn Γ) (d := fhD Γ - 1) hE (by omega) (v0 + 1) v0 (fhiP_ind (p := fun q => fhiK (q + 1) = true) hv0 rfl rfl) hv0 q2 hb5) (by omega) (by decide +kernel) rfl rfl rfl (Nat.le_of_ble_eq_true rfl) rfl ?_
    show fhW fhYF Γ 127 [(2, .int (q2.1 (v0 + 1) 1)), (1, .int q1.1), (0, .ref v0)] [] q10
    refine fhW.blk fhPF fhLL hΓ [(.aload_n 0, 0), (.iload_n 1, 0), (.iload_n 2, 0)] (pc' := 130) (lv' := [(2, .int (q2.1 (v0 + 1) 1)), (1, .int q1.1), (0, .ref v0)]) (st' := [.int (q2.1 (v0 + 1) 1), .int q1.1, .ref v0]) (σ' := q10) (by decide +kernel) rfl rfl rfl ?_
    refine fhW.callv hΓ mvX7_noteTest ml_7_123 (t := v0) (ci := 7) (av := [.int q1.1, .int (q2.1 (v0 + 1) 1)]) (rest := []) (r := none) (σ' := (f_X7_noteTest v0 q1.1 (q2.1 (v0 + 1) 1) q10)) (T_X7_noteTest (E := fhEn Γ) (d := fhD Γ - 1) hE (by omega) v0 q1.1 (q2.1 (v0 + 1) 1) hv0 q10) (by omega) (by decide +kernel) rfl (fhiP_g hv0) rfl (Nat.le_of_ble_eq_true rfl) rfl ?_
    show fhW fhYF Γ 133 [(2, .int (q2.1 (v0 + 1) 1)), (1, .int q1.1), (0, .ref v0)] [] (f_X7_noteTest v0 q1.1 (q2.1 (v0 + 1) 1) q10)
    obtain ⟨q11, e7, h⟩ := fhlet_elim h
    rw [← e7]
    refine fhW.sub (lv' := [(0, .ref v0)]) [2] rfl ?_
    exact L_X7_readStatement_133 hE hΓ hd v0 hv0 q11 _ h hk
  rw [if_neg hc] at h
  refine fhsw_c (fun hc => ?_) (fun hc => ?_)
  · rw [if_pos hc] at h
    refine fhW.blk fhPF fhLL hΓ [(.aload_n 0, 0), (.getfield 12, 0), (.getfield 94, 0), (.istore_n 2, 0), (.aload_n 0, 0), (.getfield 40, 0)] (pc' := 119) (lv' := [(2, .int (q2.1 (v0 + 1) 1)), (1, .int q1.1), (0, .ref v0)]) (st' := [.ref 9]) (σ' := q2) (by decide +kernel) rfl rfl (by rcases fhiP_or hv0 with rfl | rfl <;> rfl) ?_
    refine fhW.blk fhPF fhLL hΓ [(.aload_n 0, 0), (.getfield 12, 0), (.aload_n 0, 0)] (pc' := 124) (lv' := [(2, .int (q2.1 (v0 + 1) 1)), (1, .int q1.1), (0, .ref v0)]) (st' := [.ref v0, .ref (v0 + 1), .ref 9]) (σ' := q2) (by decide +kernel) rfl rfl (by rcases fhiP_or hv0 with rfl | rfl <;> rfl) ?_
    obtain ⟨q12, hb6, h⟩ := Option.bind_eq_some_iff.mp h
    refine fhW.callv hΓ mvX5_readTest ml_7_117 (t := 9) (ci := 5) (av := [.ref (v0 + 1), .ref v0]) (rest := []) (r := none) (σ' := q12) (T_X5_readTest (E := fhEn Γ) (d := fhD Γ - 1) hE (by omega) (v0 + 1) v0 (fhiP_ind (p := fun q => fhiK (q + 1) = true) hv0 rfl rfl) hv0 q2 hb6) (by omega) (by decide +kernel) rfl rfl rfl (Nat.le_of_ble_eq_true rfl) rfl ?_
    show fhW fhYF Γ 127 [(2, .int (q2.1 (v0 + 1) 1)), (1, .int q1.1), (0, .ref v0)] [] q12
    refine fhW.blk fhPF fhLL hΓ [(.aload_n 0, 0), (.iload_n 1, 0), (.iload_n 2, 0)] (pc' := 130) (lv' := [(2, .int (q2.1 (v0 + 1) 1)), (1, .int q1.1), (0, .ref v0)]) (st' := [.int (q2.1 (v0 + 1) 1), .int q1.1, .ref v0]) (σ' := q12) (by decide +kernel) rfl rfl rfl ?_
    refine fhW.callv hΓ mvX7_noteTest ml_7_123 (t := v0) (ci := 7) (av := [.int q1.1, .int (q2.1 (v0 + 1) 1)]) (rest := []) (r := none) (σ' := (f_X7_noteTest v0 q1.1 (q2.1 (v0 + 1) 1) q12)) (T_X7_noteTest (E := fhEn Γ) (d := fhD Γ - 1) hE (by omega) v0 q1.1 (q2.1 (v0 + 1) 1) hv0 q12) (by omega) (by decide +kernel) rfl (fhiP_g hv0) rfl (Nat.le_of_ble_eq_true rfl) rfl ?_
    show fhW fhYF Γ 133 [(2, .int (q2.1 (v0 + 1) 1)), (1, .int q1.1), (0, .ref v0)] [] (f_X7_noteTest v0 q1.1 (q2.1 (v0 + 1) 1) q12)
    obtain ⟨q13, e8, h⟩ := fhlet_elim h
    rw [← e8]
    refine fhW.sub (lv' := [(0, .ref v0)]) [2] rfl ?_
    exact L_X7_readStatement_133 hE hΓ hd v0 hv0 q13 _ h hk
  rw [if_neg hc] at h
  refine fhsw_c (fun hc => ?_) (fun hc => ?_)
  · rw [if_pos hc] at h
    refine fhW.blk fhPF fhLL hΓ [(.aload_n 0, 0), (.aload_n 0, 0), (.getfield 36, 0), (.iconst 0, 0), (.bipush 100, 100)] (pc' := 98) (lv' := [(1, .int q1.1), (0, .ref v0)]) (st' := [.int (100 : Int32), .int (0 : Int32), .ref 3, .ref v0]) (σ' := q2) (by decide +kernel) rfl rfl (by rcases fhiP_or hv0 with rfl | rfl <;> rfl) ?_
    refine fhW.callv hΓ mvX8_takeNumberWithin ml_7_107 (t := 3) (ci := 8) (av := [.int (0 : Int32), .int (100 : Int32)]) (rest := [.ref v0]) (r := (some (.int (f_X8_takeNumberWithin (0 : Int32) (100 : Int32) q2).1))) (σ' := (f_X8_takeNumberWithin (0 : Int32) (100 : Int32) q2).2) (T_X8_takeNumberWithin (E := fhEn Γ) (d := fhD Γ - 1) hE (by omega) (0 : Int32) (100 : Int32) q2) (by omega) (by decide +kernel) rfl rfl rfl (Nat.le_of_ble_eq_true rfl) rfl ?_
    show fhW fhYF Γ 101 [(1, .int q1.1), (0, .ref v0)] [.int (f_X8_takeNumberWithin (0 : Int32) (100 : Int32) q2).1, .ref v0] (f_X8_takeNumberWithin (0 : Int32) (100 : Int32) q2).2
    obtain ⟨q14, e9, h⟩ := fhlet_elim h
    rw [← e9]
    refine fhW.blk fhPF fhLL hΓ [(.putfield 88, 0)] (pc' := 104) (lv' := [(1, .int q1.1), (0, .ref v0)]) (st' := []) (σ' := (fhI q14.2 v0 13 q14.1)) (by decide +kernel) rfl rfl (by rcases fhiP_or hv0 with rfl | rfl <;> rfl) ?_
    refine fhW.goto hΓ (off := 29) (tgt := 133) (by decide +kernel) ?_
    refine fhW.sub (lv' := [(0, .ref v0)]) [1] rfl ?_
    exact L_X7_readStatement_133 hE hΓ hd v0 hv0 (fhI q14.2 v0 13 q14.1) _ h hk
  rw [if_neg hc] at h
  refine fhsw_n ?_
  refine fhW.blk fhPF fhLL hΓ [(.aload_n 0, 0), (.getfield 12, 0), (.getfield 94, 0), (.istore_n 2, 0), (.aload_n 0, 0), (.getfield 40, 0)] (pc' := 119) (lv' := [(2, .int (q2.1 (v0 + 1) 1)), (1, .int q1.1), (0, .ref v0)]) (st' := [.ref 9]) (σ' := q2) (by decide +kernel) rfl rfl (by rcases fhiP_or hv0 with rfl | rfl <;> rfl) ?_
  refine fhW.blk fhPF fhLL hΓ [(.aload_n 0, 0), (.getfield 12, 0), (.aload_n 0, 0)] (pc' := 124) (lv' := [(2, .int (q2.1 (v0 + 1) 1)), (1, .int q1.1), (0, .ref v0)]) (st' := [.ref v0, .ref (v0 + 1), .ref 9]) (σ' := q2) (by decide +kernel) rfl rfl (by rcases fhiP_or hv0 with rfl | rfl <;> rfl) ?_
  obtain ⟨q15, hb7, h⟩ := Option.bind_eq_some_iff.mp h
  refine fhW.callv hΓ mvX5_readTest ml_7_117 (t := 9) (ci := 5) (av := [.ref (v0 + 1), .ref v0]) (rest := []) (r := none) (σ' := q15) (T_X5_readTest (E := fhEn Γ) (d := fhD Γ - 1) hE (by omega) (v0 + 1) v0 (fhiP_ind (p := fun q => fhiK (q + 1) = true) hv0 rfl rfl) hv0 q2 hb7) (by omega) (by decide +kernel) rfl rfl rfl (Nat.le_of_ble_eq_true rfl) rfl ?_
  show fhW fhYF Γ 127 [(2, .int (q2.1 (v0 + 1) 1)), (1, .int q1.1), (0, .ref v0)] [] q15
  refine fhW.blk fhPF fhLL hΓ [(.aload_n 0, 0), (.iload_n 1, 0), (.iload_n 2, 0)] (pc' := 130) (lv' := [(2, .int (q2.1 (v0 + 1) 1)), (1, .int q1.1), (0, .ref v0)]) (st' := [.int (q2.1 (v0 + 1) 1), .int q1.1, .ref v0]) (σ' := q15) (by decide +kernel) rfl rfl rfl ?_
  refine fhW.callv hΓ mvX7_noteTest ml_7_123 (t := v0) (ci := 7) (av := [.int q1.1, .int (q2.1 (v0 + 1) 1)]) (rest := []) (r := none) (σ' := (f_X7_noteTest v0 q1.1 (q2.1 (v0 + 1) 1) q15)) (T_X7_noteTest (E := fhEn Γ) (d := fhD Γ - 1) hE (by omega) v0 q1.1 (q2.1 (v0 + 1) 1) hv0 q15) (by omega) (by decide +kernel) rfl (fhiP_g hv0) rfl (Nat.le_of_ble_eq_true rfl) rfl ?_
  show fhW fhYF Γ 133 [(2, .int (q2.1 (v0 + 1) 1)), (1, .int q1.1), (0, .ref v0)] [] (f_X7_noteTest v0 q1.1 (q2.1 (v0 + 1) 1) q15)
  obtain ⟨q16, e10, h⟩ := fhlet_elim h
  rw [← e10]
  refine fhW.sub (lv' := [(0, .ref v0)]) [2] rfl ?_
  exact L_X7_readStatement_133 hE hΓ hd v0 hv0 q16 _ h hk
set_option maxRecDepth 100000 in
theorem T_X7_readStatement {E : fhE} {d : Nat} (hE : fhEok fhYF E) (hd : 69 ≤ d) (v0 : Nat) (hv0 : fhiP v0 = true) (σ : fhM) {o : fhM} (h : f_X7_readStatement v0 σ = some o) : fhC fhYF E d miX7_readStatement [.ref v0] σ none o := by
  refine fhC.of (y := yX7_readStatement) (cc := cX7_readStatement) (nL := 3) (ret := none) 7 rfl (by decide +kernel) (Nat.le_of_ble_eq_true rfl) ?_
  intro Γ hΓ hR hD hEn
  subst hD; subst hEn
  exact L_X7_readStatement_E hE hΓ hd v0 hv0 σ _ h hR
set_option maxRecDepth 100000 in
set_option maxHeartbeats 4000000 in
theorem L_X11_parlour_46 {Γ : fhX} (hE : fhEok fhYF (fhEn Γ)) (hΓ : fhOk fhYF 11 cX11_parlour 2 (some .int) Γ) (hd : 70 ≤ fhD Γ)   (σ : fhM) (o : Int32 × fhM) (h : f_X11_parlour_46 σ = some o) (hk : (fun o => fhRet Γ (some (.int o.1)) o.2) o) : fhW fhYF Γ 46 [(0, .ref 0)] [] σ := by
  unfold f_X11_parlour_46 at h
  refine fhW.blk fhPF fhLL hΓ [(.aload_n 0, 0), (.getfield 57, 0), (.aload_n 0, 0), (.getfield 44, 0)] (pc' := 54) (lv' := [(0, .ref 0)]) (st' := [.ref 10, .ref (σ.2.2 0 7)]) (σ' := σ) (by decide +kernel) rfl rfl rfl ?_
  obtain ⟨hy1, h⟩ := fhif h
  obtain ⟨q4, hb1, h⟩ := Option.bind_eq_some_iff.mp h
  refine fhW.callv hΓ mvX7_close ml_11_135 (t := (σ.2.2 0 7)) (ci := 7) (av := [.ref 10]) (rest := []) (r := none) (σ' := q4) (T_X7_close (E := fhEn Γ) (d := fhD Γ - 1) hE (by omega) (σ.2.2 0 7) hy1 σ hb1) (by omega) (by decide +kernel) rfl (fhiP_g hy1) rfl (Nat.le_of_ble_eq_true rfl) rfl ?_
  show fhW fhYF Γ 57 [(0, .ref 0)] [] q4
  refine fhW.blk fhPF fhLL hΓ [(.aload_n 0, 0)] (pc' := 58) (lv' := [(0, .ref 0)]) (st' := [.ref 0]) (σ' := q4) (by decide +kernel) rfl rfl rfl ?_
  refine fhW.callv hΓ mvX11_noteFault ml_11_139 (t := 0) (ci := 11) (av := []) (rest := []) (r := none) (σ' := (f_X11_noteFault q4)) (T_X11_noteFault (E := fhEn Γ) (d := fhD Γ - 1) hE (by omega) q4) (by omega) (by decide +kernel) rfl rfl rfl (Nat.le_of_ble_eq_true rfl) rfl ?_
  show fhW fhYF Γ 61 [(0, .ref 0)] [] (f_X11_noteFault q4)
  obtain ⟨q5, e1, h⟩ := fhlet_elim h
  rw [← e1]
  refine fhW.blk fhPF fhLL hΓ [(.aload_n 0, 0), (.getfield 142, 0)] (pc' := 65) (lv' := [(0, .ref 0)]) (st' := [.int (q5.1 0 17)]) (σ' := q5) (by decide +kernel) rfl rfl rfl ?_
  refine fhW.z_eq hΓ (tgt := 74) (show fhbk _ _ (.ifCond .eq (9)) _ = true by decide +kernel) (fun hc => ?_) (fun hc => ?_)
  · rw [if_pos hc] at h
    refine fhW.blk fhPF fhLL hΓ [(.aload_n 0, 0), (.getfield 53, 0), (.astore_n 1, 0), (.aload_n 0, 0), (.aload_n 0, 0), (.getfield 57, 0), (.putfield 53, 0), (.aload_n 0, 0), (.aload_n 1, 0), (.putfield 57, 0), (.aload_n 0, 0), (.iconst 1, 1), (.putfield 145, 0), (.aload_n 0, 0), (.getfield 63, 0), (.aload_n 0, 0), (.getfield 53, 0), (.aload_n 0, 0), (.getfield 44, 0)] (pc' := 109) (lv' := [(1, .ref (q5.2.2 0 6)), (0, .ref 0)]) (st' := [.ref 10, .ref (q5.2.2 0 7), .ref 39]) (σ' := (fhI (fhR (fhR q5 0 6 (q5.2.2 0 7)) 0 7 (q5.2.2 0 6)) 0 8 (1 : Int32))) (by decide +kernel) rfl rfl rfl ?_
    obtain ⟨hy2, h⟩ := fhif h
    obtain ⟨q6, hb2, h⟩ := Option.bind_eq_some_iff.mp h
    refine fhW.callv hΓ mvX9_build ml_11_149 (t := 39) (ci := 9) (av := [.ref (q5.2.2 0 7), .ref 10]) (rest := []) (r := none) (σ' := q6) (T_X9_build (E := fhEn Γ) (d := fhD Γ - 1) hE (by omega) (q5.2.2 0 7) hy2 (fhI (fhR (fhR q5 0 6 (q5.2.2 0 7)) 0 7 (q5.2.2 0 6)) 0 8 (1 : Int32)) hb2) (by omega) (by decide +kernel) rfl rfl rfl (Nat.le_of_ble_eq_true rfl) rfl ?_
    show fhW fhYF Γ 112 [(1, .ref (q5.2.2 0 6)), (0, .ref 0)] [] q6
    obtain ⟨hy3, h⟩ := fhif h
    refine fhW.blk fhPF fhLL hΓ [(.aload_n 0, 0), (.getfield 72, 0), (.aload_n 0, 0), (.getfield 53, 0), (.getfield 153, 0)] (pc' := 123) (lv' := [(1, .ref (q5.2.2 0 6)), (0, .ref 0)]) (st' := [.int (q6.1 (q6.2.2 0 6) 14), .ref 56]) (σ' := q6) (by decide +kernel) rfl rfl (by have hq := hy3; generalize (q6.2.2 0 6) = qq at hq ⊢; rcases fhiP_or hq with rfl | rfl <;> rfl) ?_
    obtain ⟨q7, hb3, h⟩ := Option.bind_eq_some_iff.mp h
    refine fhW.callv hΓ mvX4_begin ml_11_156 (t := 56) (ci := 4) (av := [.int (q6.1 (q6.2.2 0 6) 14)]) (rest := []) (r := none) (σ' := q7) (T_X4_begin (E := fhEn Γ) (d := fhD Γ - 1) hE (by omega) (q6.1 (q6.2.2 0 6) 14) q6 hb3) (by omega) (by decide +kernel) rfl rfl rfl (Nat.le_of_ble_eq_true rfl) rfl ?_
    show fhW fhYF Γ 126 [(1, .ref (q5.2.2 0 6)), (0, .ref 0)] [] q7
    refine fhW.blk fhPF fhLL hΓ [(.aload_n 0, 0), (.getfield 79, 0)] (pc' := 130) (lv' := [(1, .ref (q5.2.2 0 6)), (0, .ref 0)]) (st' := [.ref 76]) (σ' := q7) (by decide +kernel) rfl rfl rfl ?_
    refine fhW.callv hΓ mvX1_forget ml_11_159 (t := 76) (ci := 1) (av := []) (rest := []) (r := none) (σ' := (f_X1_forget q7)) (T_X1_forget (E := fhEn Γ) (d := fhD Γ - 1) hE (by omega) q7) (by omega) (by decide +kernel) rfl rfl rfl (Nat.le_of_ble_eq_true rfl) rfl ?_
    show fhW fhYF Γ 133 [(1, .ref (q5.2.2 0 6)), (0, .ref 0)] [] (f_X1_forget q7)
    obtain ⟨q8, e2, h⟩ := fhlet_elim h
    rw [← e2]
    refine fhW.blk fhPF fhLL hΓ [(.aload_n 0, 0), (.getfield 86, 0)] (pc' := 137) (lv' := [(1, .ref (q5.2.2 0 6)), (0, .ref 0)]) (st' := [.ref 93]) (σ' := q8) (by decide +kernel) rfl rfl rfl ?_
    refine fhW.callv hΓ mvX6_wipe ml_11_162 (t := 93) (ci := 6) (av := []) (rest := []) (r := none) (σ' := (f_X6_wipe q8)) (T_X6_wipe (E := fhEn Γ) (d := fhD Γ - 1) hE (by omega) q8) (by omega) (by decide +kernel) rfl rfl rfl (Nat.le_of_ble_eq_true rfl) rfl ?_
    show fhW fhYF Γ 140 [(1, .ref (q5.2.2 0 6)), (0, .ref 0)] [] (f_X6_wipe q8)
    obtain ⟨q9, e3, h⟩ := fhlet_elim h
    rw [← e3]
    obtain ⟨hy4, h⟩ := fhif h
    refine fhW.blk fhPF fhLL hΓ [(.aload_n 0, 0), (.getfield 53, 0), (.getfield 165, 0)] (pc' := 147) (lv' := [(1, .ref (q5.2.2 0 6)), (0, .ref 0)]) (st' := [.int (q9.1 (q9.2.2 0 6) 8)]) (σ' := q9) (by decide +kernel) rfl rfl (by have hq := hy4; generalize (q9.2.2 0 6) = qq at hq ⊢; rcases fhiP_or hq with rfl | rfl <;> rfl) ?_
    have e9 := Option.some.inj h
    subst e9
    exact fhW.iret hΓ (by decide +kernel) hk
  · rw [if_neg hc] at h
    refine fhW.blk fhPF fhLL hΓ [(.aload_n 0, 0), (.iconst 1, 1)] (pc' := 70) (lv' := [(0, .ref 0)]) (st' := [.int (1 : Int32), .ref 0]) (σ' := q5) (by decide +kernel) rfl rfl rfl ?_
    refine fhW.callv hΓ mvX11_refuse ml_11_106 (t := 0) (ci := 11) (av := [.int (1 : Int32)]) (rest := []) (r := (some (.int (f_X11_refuse (1 : Int32) q5).1))) (σ' := (f_X11_refuse (1 : Int32) q5).2) (T_X11_refuse (E := fhEn Γ) (d := fhD Γ - 1) hE (by omega) (1 : Int32) q5) (by omega) (by decide +kernel) rfl rfl rfl (Nat.le_of_ble_eq_true rfl) rfl ?_
    show fhW fhYF Γ 73 [(0, .ref 0)] [.int (f_X11_refuse (1 : Int32) q5).1] (f_X11_refuse (1 : Int32) q5).2
    obtain ⟨q10, e4, h⟩ := fhlet_elim h
    rw [← e4]
    have e9 := Option.some.inj h
    subst e9
    exact fhW.iret hΓ (by decide +kernel) hk
set_option maxRecDepth 100000 in
set_option maxHeartbeats 4000000 in
theorem L_X11_parlour_17 {Γ : fhX} (hE : fhEok fhYF (fhEn Γ)) (hΓ : fhOk fhYF 11 cX11_parlour 2 (some .int) Γ) (hd : 70 ≤ fhD Γ) (v1 : Int32)  (σ : fhM) (o : (Int32 × fhM) ⊕ (Int32 × fhM)) (h : f_X11_parlour_17 v1 σ = some o) (hk : (fhK (fun x => fhW fhYF Γ 17 [(0, .ref 0), (1, .int x.1)] [] x.2) (fun o => fhRet Γ (some (.int o.1)) o.2)) o) : fhW fhYF Γ 17 [(0, .ref 0), (1, .int v1)] [] σ := by
  unfold f_X11_parlour_17 at h
  refine fhW.blk fhPF fhLL hΓ [(.iload_n 1, 0), (.bipush 60, 60)] (pc' := 20) (lv' := [(0, .ref 0), (1, .int v1)]) (st' := [.int (60 : Int32), .int v1]) (σ' := σ) (by decide +kernel) rfl rfl rfl ?_
  refine fhW.i_gt hΓ (tgt := 46) (show fhbk _ _ (.if_icmp .gt (26)) _ = true by decide +kernel) (fun hc => ?_) (fun hc => ?_)
  · rw [if_pos hc] at h
    refine fhW.sub (lv' := [(0, .ref 0)]) [0] rfl ?_
    obtain ⟨z1, hz, e5⟩ := Option.map_eq_some_iff.mp h
    clear h
    subst e5
    have h := hz
    have hk : (fun o => fhRet Γ (some (.int o.1)) o.2) z1 := hk
    exact L_X11_parlour_46 hE hΓ hd σ _ h hk
  · rw [if_neg hc] at h
    refine fhW.blk fhPF fhLL hΓ [(.aload_n 0, 0), (.getfield 21, 0)] (pc' := 27) (lv' := [(0, .ref 0), (1, .int v1)]) (st' := [.ref 3]) (σ' := σ) (by decide +kernel) rfl rfl rfl ?_
    refine fhW.callv hΓ mvX8_isGoingOn ml_11_128 (t := 3) (ci := 8) (av := []) (rest := []) (r := (some (.int (fhb (f_X8_isGoingOn σ))))) (σ' := σ) (T_X8_isGoingOn (E := fhEn Γ) (d := fhD Γ - 1) hE (by omega) σ) (by omega) (by decide +kernel) rfl rfl rfl (Nat.le_of_ble_eq_true rfl) rfl ?_
    show fhW fhYF Γ 30 [(0, .ref 0), (1, .int v1)] [.int (fhb (f_X8_isGoingOn σ))] σ
    refine fhW.b_eq hΓ (tgt := 46) (show fhbk _ _ (.ifCond .eq (16)) _ = true by decide +kernel) (fun hc => ?_) (fun hc => ?_)
    · rw [if_neg hc] at h
      refine fhW.sub (lv' := [(0, .ref 0)]) [0] rfl ?_
      obtain ⟨z2, hz, e6⟩ := Option.map_eq_some_iff.mp h
      clear h
      subst e6
      have h := hz
      have hk : (fun o => fhRet Γ (some (.int o.1)) o.2) z2 := hk
      exact L_X11_parlour_46 hE hΓ hd σ _ h hk
    · rw [if_pos hc] at h
      refine fhW.blk fhPF fhLL hΓ [(.aload_n 0, 0), (.getfield 57, 0)] (pc' := 37) (lv' := [(0, .ref 0), (1, .int v1)]) (st' := [.ref (σ.2.2 0 7)]) (σ' := σ) (by decide +kernel) rfl rfl rfl ?_
      obtain ⟨hy5, h⟩ := fhif h
      obtain ⟨q3, hb4, h⟩ := Option.bind_eq_some_iff.mp h
      refine fhW.callv hΓ mvX7_readStatement ml_11_132 (t := (σ.2.2 0 7)) (ci := 7) (av := []) (rest := []) (r := none) (σ' := q3) (T_X7_readStatement (E := fhEn Γ) (d := fhD Γ - 1) hE (by omega) (σ.2.2 0 7) hy5 σ hb4) (by omega) (by decide +kernel) rfl (fhiP_g hy5) rfl (Nat.le_of_ble_eq_true rfl) rfl ?_
      show fhW fhYF Γ 40 [(0, .ref 0), (1, .int v1)] [] q3
      refine fhW.blk fhPF fhLL hΓ [(.iinc 1 1, 1)] (pc' := 43) (lv' := [(1, .int (v1 + (1 : Int32))), (0, .ref 0)]) (st' := []) (σ' := q3) (by decide +kernel) rfl rfl rfl ?_
      refine fhW.goto hΓ (off := (-26)) (tgt := 17) (by decide +kernel) ?_
      refine fhW.sub (lv' := [(0, .ref 0), (1, .int (v1 + (1 : Int32)))]) [1, 0] rfl ?_
      have e9 := Option.some.inj h
      subst e9
      exact hk
set_option maxRecDepth 100000 in
set_option maxHeartbeats 4000000 in
theorem L_X11_parlour_E {Γ : fhX} (hE : fhEok fhYF (fhEn Γ)) (hΓ : fhOk fhYF 11 cX11_parlour 2 (some .int) Γ) (hd : 70 ≤ fhD Γ)   (σ : fhM) (o : Int32 × fhM) (h : f_X11_parlour σ = some o) (hk : (fun o => fhRet Γ (some (.int o.1)) o.2) o) : fhW fhYF Γ 0 [(0, .ref 0)] [] σ := by
  unfold f_X11_parlour at h
  refine fhW.blk fhPF fhLL hΓ [(.aload_n 0, 0), (.getfield 57, 0), (.aload_n 0, 0), (.getfield 14, 0), (.aload_n 0, 0)] (pc' := 9) (lv' := [(0, .ref 0)]) (st' := [.ref 0, .ref 1, .ref (σ.2.2 0 7)]) (σ' := σ) (by decide +kernel) rfl rfl rfl ?_
  refine fhW.callv hΓ mvX11_takeTape ml_11_120 (t := 0) (ci := 11) (av := []) (rest := [.ref 1, .ref (σ.2.2 0 7)]) (r := (some (.int (f_X11_takeTape σ).1))) (σ' := (f_X11_takeTape σ).2) (T_X11_takeTape (E := fhEn Γ) (d := fhD Γ - 1) hE (by omega) σ) (by omega) (by decide +kernel) rfl rfl rfl (Nat.le_of_ble_eq_true rfl) rfl ?_
  show fhW fhYF Γ 12 [(0, .ref 0)] [.int (f_X11_takeTape σ).1, .ref 1, .ref (σ.2.2 0 7)] (f_X11_takeTape σ).2
  obtain ⟨q1, e7, h⟩ := fhlet_elim h
  rw [← e7]
  obtain ⟨hy6, h⟩ := fhif h
  obtain ⟨q2, hb5, h⟩ := Option.bind_eq_some_iff.mp h
  refine fhW.callv hΓ mvX7_open ml_11_124 (t := (σ.2.2 0 7)) (ci := 7) (av := [.ref 1, .int q1.1]) (rest := []) (r := none) (σ' := q2) (T_X7_open (E := fhEn Γ) (d := fhD Γ - 1) hE (by omega) (σ.2.2 0 7) 1 q1.1 hy6 rfl q1.2 hb5) (by omega) (by decide +kernel) rfl (fhiP_g hy6) rfl (Nat.le_of_ble_eq_true rfl) rfl ?_
  show fhW fhYF Γ 15 [(0, .ref 0)] [] q2
  refine fhW.blk fhPF fhLL hΓ [(.iconst 0, 0), (.istore_n 1, 0)] (pc' := 17) (lv' := [(1, .int (0 : Int32)), (0, .ref 0)]) (st' := []) (σ' := q2) (by decide +kernel) rfl rfl rfl ?_
  refine fhW.sub (lv' := [(0, .ref 0), (1, .int (0 : Int32))]) [1, 0] rfl ?_
  exact fhlp_ok (W := (fun x => fhW fhYF Γ 17 [(0, .ref 0), (1, .int x.1)] [] x.2)) (B := (fun o => fhRet Γ (some (.int o.1)) o.2)) (fun x o h hk => L_X11_parlour_17 hE hΓ hd x.1 x.2 o h hk) ((0 : Int32), q2) _ h hk
set_option maxRecDepth 100000 in
theorem T_X11_parlour {E : fhE} {d : Nat} (hE : fhEok fhYF E) (hd : 70 ≤ d)   (σ : fhM) {o : Int32 × fhM} (h : f_X11_parlour σ = some o) : fhC fhYF E d miX11_parlour [.ref 0] σ (some (.int o.1)) o.2 := by
  refine fhC.of (y := yX11_parlour) (cc := cX11_parlour) (nL := 2) (ret := (some .int)) 11 rfl (by decide +kernel) (Nat.le_of_ble_eq_true rfl) ?_
  intro Γ hΓ hR hD hEn
  subst hD; subst hEn
  exact L_X11_parlour_E hE hΓ hd   σ _ h hR
set_option maxRecDepth 100000 in
set_option maxHeartbeats 4000000 in
theorem L_X5_readQuestion_86 {Γ : fhX} (hE : fhEok fhYF (fhEn Γ)) (hΓ : fhOk fhYF 5 cX5_readQuestion 4 (some .int) Γ) (hd : 68 ≤ fhD Γ) (v3 : Int32)  (σ : fhM) (o : Int32 × fhM) (h : f_X5_readQuestion_86 v3 σ = some o) (hk : (fun o => fhRet Γ (some (.int o.1)) o.2) o) : fhW fhYF Γ 86 [(0, .ref 9), (3, .int v3)] [] σ := by
  unfold f_X5_readQuestion_86 at h
  refine fhW.blk fhPF fhLL hΓ [(.aload_n 0, 0), (.getfield 9, 0)] (pc' := 90) (lv' := [(0, .ref 9), (3, .int v3)]) (st' := [.ref 3]) (σ' := σ) (by decide +kernel) rfl rfl rfl ?_
  refine fhW.callv hΓ mvX8_isEnd ml_5_41 (t := 3) (ci := 8) (av := []) (rest := []) (r := (some (.int (fhb (f_X8_isEnd σ))))) (σ' := σ) (T_X8_isEnd (E := fhEn Γ) (d := fhD Γ - 1) hE (by omega) σ) (by omega) (by decide +kernel) rfl rfl rfl (Nat.le_of_ble_eq_true rfl) rfl ?_
  show fhW fhYF Γ 93 [(0, .ref 9), (3, .int v3)] [.int (fhb (f_X8_isEnd σ))] σ
  refine fhW.b_ne hΓ (tgt := 103) (show fhbk _ _ (.ifCond .ne (10)) _ = true by decide +kernel) (fun hc => ?_) (fun hc => ?_)
  · rw [if_pos hc] at h
    refine fhW.blk fhPF fhLL hΓ [(.iload_n 3, 0)] (pc' := 104) (lv' := [(0, .ref 9), (3, .int v3)]) (st' := [.int v3]) (σ' := σ) (by decide +kernel) rfl rfl rfl ?_
    have e9 := Option.some.inj h
    subst e9
    exact fhW.iret hΓ (by decide +kernel) hk
  · rw [if_neg hc] at h
    refine fhW.blk fhPF fhLL hΓ [(.aload_n 0, 0), (.getfield 9, 0)] (pc' := 100) (lv' := [(0, .ref 9), (3, .int v3)]) (st' := [.ref 3]) (σ' := σ) (by decide +kernel) rfl rfl rfl ?_
    refine fhW.callv hΓ mvX8_failHere ml_5_38 (t := 3) (ci := 8) (av := []) (rest := []) (r := none) (σ' := (f_X8_failHere σ)) (T_X8_failHere (E := fhEn Γ) (d := fhD Γ - 1) hE (by omega) σ) (by omega) (by decide +kernel) rfl rfl rfl (Nat.le_of_ble_eq_true rfl) rfl ?_
    show fhW fhYF Γ 103 [(0, .ref 9), (3, .int v3)] [] (f_X8_failHere σ)
    obtain ⟨q7, e1, h⟩ := fhlet_elim h
    rw [← e1]
    refine fhW.blk fhPF fhLL hΓ [(.iload_n 3, 0)] (pc' := 104) (lv' := [(0, .ref 9), (3, .int v3)]) (st' := [.int v3]) (σ' := q7) (by decide +kernel) rfl rfl rfl ?_
    have e9 := Option.some.inj h
    subst e9
    exact fhW.iret hΓ (by decide +kernel) hk
set_option maxRecDepth 100000 in
set_option maxHeartbeats 4000000 in
theorem L_X5_readQuestion_33 {Γ : fhX} (hE : fhEok fhYF (fhEn Γ)) (hΓ : fhOk fhYF 5 cX5_readQuestion 4 (some .int) Γ) (hd : 68 ≤ fhD Γ) (v3 : Int32)  (σ : fhM) (o : Int32 × fhM) (h : f_X5_readQuestion_33 v3 σ = some o) (hk : (fun o => fhRet Γ (some (.int o.1)) o.2) o) : fhW fhYF Γ 33 [(0, .ref 9), (3, .int v3)] [] σ := by
  unfold f_X5_readQuestion_33 at h
  refine fhW.blk fhPF fhLL hΓ [(.aload_n 0, 0), (.getfield 9, 0)] (pc' := 37) (lv' := [(0, .ref 9), (3, .int v3)]) (st' := [.ref 3]) (σ' := σ) (by decide +kernel) rfl rfl rfl ?_
  refine fhW.callv hΓ mvX8_advance ml_5_29 (t := 3) (ci := 8) (av := []) (rest := []) (r := none) (σ' := (f_X8_advance σ)) (T_X8_advance (E := fhEn Γ) (d := fhD Γ - 1) hE (by omega) σ) (by omega) (by decide +kernel) rfl rfl rfl (Nat.le_of_ble_eq_true rfl) rfl ?_
  show fhW fhYF Γ 40 [(0, .ref 9), (3, .int v3)] [] (f_X8_advance σ)
  obtain ⟨q3, e2, h⟩ := fhlet_elim h
  rw [← e2]
  refine fhW.blk fhPF fhLL hΓ [(.aload_n 0, 0)] (pc' := 41) (lv' := [(0, .ref 9), (3, .int v3)]) (st' := [.ref 9]) (σ' := q3) (by decide +kernel) rfl rfl rfl ?_
  obtain ⟨q4, hb1, h⟩ := Option.bind_eq_some_iff.mp h
  refine fhW.callv hΓ mvX5_test ml_5_32 (t := 9) (ci := 5) (av := []) (rest := []) (r := none) (σ' := q4) (T_X5_testN (E := fhEn Γ) (d := fhD Γ - 1) hE (by omega) q3 hb1) (by omega) (by decide +kernel) rfl rfl rfl (Nat.le_of_ble_eq_true rfl) rfl ?_
  show fhW fhYF Γ 44 [(0, .ref 9), (3, .int v3)] [] q4
  refine fhW.goto hΓ (off := 42) (tgt := 86) (by decide +kernel) ?_
  refine fhW.sub (lv' := [(0, .ref 9), (3, .int v3)]) [0, 1] rfl ?_
  exact L_X5_readQuestion_86 hE hΓ hd v3 q4 _ h hk
set_option maxRecDepth 100000 in
set_option maxHeartbeats 4000000 in
theorem L_X5_readQuestion_65 {Γ : fhX} (hE : fhEok fhYF (fhEn Γ)) (hΓ : fhOk fhYF 5 cX5_readQuestion 4 (some .int) Γ) (hd : 68 ≤ fhD Γ) (v3 : Int32)  (σ : fhM) (o : Int32 × fhM) (h : f_X5_readQuestion_65 v3 σ = some o) (hk : (fun o => fhRet Γ (some (.int o.1)) o.2) o) : fhW fhYF Γ 65 [(0, .ref 9), (3, .int v3)] [] σ := by
  unfold f_X5_readQuestion_65 at h
  refine fhW.blk fhPF fhLL hΓ [(.aload_n 0, 0), (.getfield 9, 0)] (pc' := 69) (lv' := [(0, .ref 9), (3, .int v3)]) (st' := [.ref 3]) (σ' := σ) (by decide +kernel) rfl rfl rfl ?_
  refine fhW.callv hΓ mvX8_advance ml_5_29 (t := 3) (ci := 8) (av := []) (rest := []) (r := none) (σ' := (f_X8_advance σ)) (T_X8_advance (E := fhEn Γ) (d := fhD Γ - 1) hE (by omega) σ) (by omega) (by decide +kernel) rfl rfl rfl (Nat.le_of_ble_eq_true rfl) rfl ?_
  show fhW fhYF Γ 72 [(0, .ref 9), (3, .int v3)] [] (f_X8_advance σ)
  obtain ⟨q5, e3, h⟩ := fhlet_elim h
  rw [← e3]
  refine fhW.blk fhPF fhLL hΓ [(.aload_n 0, 0)] (pc' := 73) (lv' := [(0, .ref 9), (3, .int v3)]) (st' := [.ref 9]) (σ' := q5) (by decide +kernel) rfl rfl rfl ?_
  obtain ⟨q6, hb2, h⟩ := Option.bind_eq_some_iff.mp h
  refine fhW.callv hΓ mvX5_sum ml_5_35 (t := 9) (ci := 5) (av := []) (rest := []) (r := none) (σ' := q6) (T_X5_sumN (E := fhEn Γ) (d := fhD Γ - 1) hE (by omega) q5 hb2) (by omega) (by decide +kernel) rfl rfl rfl (Nat.le_of_ble_eq_true rfl) rfl ?_
  show fhW fhYF Γ 76 [(0, .ref 9), (3, .int v3)] [] q6
  refine fhW.goto hΓ (off := 10) (tgt := 86) (by decide +kernel) ?_
  refine fhW.sub (lv' := [(0, .ref 9), (3, .int v3)]) [0, 1] rfl ?_
  exact L_X5_readQuestion_86 hE hΓ hd v3 q6 _ h hk
set_option maxRecDepth 100000 in
set_option maxHeartbeats 4000000 in
theorem L_X5_readQuestion_E {Γ : fhX} (hE : fhEok fhYF (fhEn Γ)) (hΓ : fhOk fhYF 5 cX5_readQuestion 4 (some .int) Γ) (hd : 68 ≤ fhD Γ) (v1 : Nat) (v2 : Nat) (hv1 : fhiK v1 = true) (hv2 : fhiP v2 = true) (σ : fhM) (o : Int32 × fhM) (h : f_X5_readQuestion v1 v2 σ = some o) (hk : (fun o => fhRet Γ (some (.int o.1)) o.2) o) : fhW fhYF Γ 0 [(0, .ref 9), (1, .ref v1), (2, .ref v2)] [] σ := by
  unfold f_X5_readQuestion at h
  refine fhW.blk fhPF fhLL hΓ [(.aload_n 0, 0), (.aload_n 1, 0), (.aload_n 2, 0), (.iconst 1, 1)] (pc' := 4) (lv' := [(0, .ref 9), (1, .ref v1), (2, .ref v2)]) (st' := [.int (1 : Int32), .ref v2, .ref v1, .ref 9]) (σ' := σ) (by decide +kernel) rfl rfl rfl ?_
  obtain ⟨q1, hb3, h⟩ := Option.bind_eq_some_iff.mp h
  refine fhW.callv hΓ mvX5_begin ml_5_19 (t := 9) (ci := 5) (av := [.ref v1, .ref v2, .int (1 : Int32)]) (rest := []) (r := none) (σ' := q1) (T_X5_begin (E := fhEn Γ) (d := fhD Γ - 1) hE (by omega) v1 v2 (1 : Int32) hv1 hv2 σ hb3) (by omega) (by decide +kernel) rfl rfl rfl (Nat.le_of_ble_eq_true rfl) rfl ?_
  show fhW fhYF Γ 7 [(0, .ref 9), (1, .ref v1), (2, .ref v2)] [] q1
  refine fhW.blk fhPF fhLL hΓ [(.aload_n 0, 0), (.getfield 9, 0)] (pc' := 11) (lv' := [(0, .ref 9), (1, .ref v1), (2, .ref v2)]) (st' := [.ref 3]) (σ' := q1) (by decide +kernel) rfl rfl rfl ?_
  refine fhW.callv hΓ mvX8_wordHere ml_5_23 (t := 3) (ci := 8) (av := []) (rest := []) (r := (some (.int (f_X8_wordHere q1)))) (σ' := q1) (T_X8_wordHere (E := fhEn Γ) (d := fhD Γ - 1) hE (by omega) q1) (by omega) (by decide +kernel) rfl rfl rfl (Nat.le_of_ble_eq_true rfl) rfl ?_
  show fhW fhYF Γ 14 [(0, .ref 9), (1, .ref v1), (2, .ref v2)] [.int (f_X8_wordHere q1)] q1
  refine fhW.blk fhPF fhLL hΓ [(.istore_n 3, 0), (.iload_n 3, 0), (.bipush 26, 26)] (pc' := 18) (lv' := [(3, .int (f_X8_wordHere q1)), (0, .ref 9), (1, .ref v1), (2, .ref v2)]) (st' := [.int (26 : Int32), .int (f_X8_wordHere q1)]) (σ' := q1) (by decide +kernel) rfl rfl rfl ?_
  refine fhW.i_eq hΓ (tgt := 33) (show fhbk _ _ (.if_icmp .eq (15)) _ = true by decide +kernel) (fun hc => ?_) (fun hc => ?_)
  · rw [if_pos hc] at h
    refine fhW.sub (lv' := [(0, .ref 9), (3, .int (f_X8_wordHere q1))]) [1, 0] rfl ?_
    exact L_X5_readQuestion_33 hE hΓ hd (f_X8_wordHere q1) q1 _ h hk
  · rw [if_neg hc] at h
    refine fhW.blk fhPF fhLL hΓ [(.iload_n 3, 0), (.bipush 27, 27)] (pc' := 24) (lv' := [(3, .int (f_X8_wordHere q1)), (0, .ref 9), (1, .ref v1), (2, .ref v2)]) (st' := [.int (27 : Int32), .int (f_X8_wordHere q1)]) (σ' := q1) (by decide +kernel) rfl rfl rfl ?_
    refine fhW.i_eq hΓ (tgt := 33) (show fhbk _ _ (.if_icmp .eq (9)) _ = true by decide +kernel) (fun hc => ?_) (fun hc => ?_)
    · rw [if_pos hc] at h
      refine fhW.sub (lv' := [(0, .ref 9), (3, .int (f_X8_wordHere q1))]) [1, 0] rfl ?_
      exact L_X5_readQuestion_33 hE hΓ hd (f_X8_wordHere q1) q1 _ h hk
    · rw [if_neg hc] at h
      refine fhW.blk fhPF fhLL hΓ [(.iload_n 3, 0), (.bipush 28, 28)] (pc' := 30) (lv' := [(3, .int (f_X8_wordHere q1)), (0, .ref 9), (1, .ref v1), (2, .ref v2)]) (st' := [.int (28 : Int32), .int (f_X8_wordHere q1)]) (σ' := q1) (by decide +kernel) rfl rfl rfl ?_
      refine fhW.i_ne hΓ (tgt := 47) (show fhbk _ _ (.if_icmp .ne (17)) _ = true by decide +kernel) (fun hc => ?_) (fun hc => ?_)
      · rw [if_neg hc] at h
        refine fhW.blk fhPF fhLL hΓ [(.iload_n 3, 0), (.bipush 29, 29)] (pc' := 50) (lv' := [(3, .int (f_X8_wordHere q1)), (0, .ref 9), (1, .ref v1), (2, .ref v2)]) (st' := [.int (29 : Int32), .int (f_X8_wordHere q1)]) (σ' := q1) (by decide +kernel) rfl rfl rfl ?_
        refine fhW.i_eq hΓ (tgt := 65) (show fhbk _ _ (.if_icmp .eq (15)) _ = true by decide +kernel) (fun hc => ?_) (fun hc => ?_)
        · rw [if_pos hc] at h
          refine fhW.sub (lv' := [(0, .ref 9), (3, .int (f_X8_wordHere q1))]) [1, 0] rfl ?_
          exact L_X5_readQuestion_65 hE hΓ hd (f_X8_wordHere q1) q1 _ h hk
        · rw [if_neg hc] at h
          refine fhW.blk fhPF fhLL hΓ [(.iload_n 3, 0), (.bipush 30, 30)] (pc' := 56) (lv' := [(3, .int (f_X8_wordHere q1)), (0, .ref 9), (1, .ref v1), (2, .ref v2)]) (st' := [.int (30 : Int32), .int (f_X8_wordHere q1)]) (σ' := q1) (by decide +kernel) rfl rfl rfl ?_
          refine fhW.i_eq hΓ (tgt := 65) (show fhbk _ _ (.if_icmp .eq (9)) _ = true by decide +kernel) (fun hc => ?_) (fun hc => ?_)
          · rw [if_pos hc] at h
            refine fhW.sub (lv' := [(0, .ref 9), (3, .int (f_X8_wordHere q1))]) [1, 0] rfl ?_
            exact L_X5_readQuestion_65 hE hΓ hd (f_X8_wordHere q1) q1 _ h hk
          · rw [if_neg hc] at h
            refine fhW.blk fhPF fhLL hΓ [(.iload_n 3, 0), (.bipush 31, 31)] (pc' := 62) (lv' := [(3, .int (f_X8_wordHere q1)), (0, .ref 9), (1, .ref v1), (2, .ref v2)]) (st' := [.int (31 : Int32), .int (f_X8_wordHere q1)]) (σ' := q1) (by decide +kernel) rfl rfl rfl ?_
            refine fhW.i_ne hΓ (tgt := 79) (show fhbk _ _ (.if_icmp .ne (17)) _ = true by decide +kernel) (fun hc => ?_) (fun hc => ?_)
            · rw [if_neg hc] at h
              refine fhW.blk fhPF fhLL hΓ [(.aload_n 0, 0), (.getfield 9, 0)] (pc' := 83) (lv' := [(3, .int (f_X8_wordHere q1)), (0, .ref 9), (1, .ref v1), (2, .ref v2)]) (st' := [.ref 3]) (σ' := q1) (by decide +kernel) rfl rfl rfl ?_
              refine fhW.callv hΓ mvX8_failHere ml_5_38 (t := 3) (ci := 8) (av := []) (rest := []) (r := none) (σ' := (f_X8_failHere q1)) (T_X8_failHere (E := fhEn Γ) (d := fhD Γ - 1) hE (by omega) q1) (by omega) (by decide +kernel) rfl rfl rfl (Nat.le_of_ble_eq_true rfl) rfl ?_
              show fhW fhYF Γ 86 [(3, .int (f_X8_wordHere q1)), (0, .ref 9), (1, .ref v1), (2, .ref v2)] [] (f_X8_failHere q1)
              obtain ⟨q2, e4, h⟩ := fhlet_elim h
              rw [← e4]
              refine fhW.sub (lv' := [(0, .ref 9), (3, .int (f_X8_wordHere q1))]) [1, 0] rfl ?_
              exact L_X5_readQuestion_86 hE hΓ hd (f_X8_wordHere q1) q2 _ h hk
            · rw [if_pos hc] at h
              refine fhW.sub (lv' := [(0, .ref 9), (3, .int (f_X8_wordHere q1))]) [1, 0] rfl ?_
              exact L_X5_readQuestion_65 hE hΓ hd (f_X8_wordHere q1) q1 _ h hk
      · rw [if_pos hc] at h
        refine fhW.sub (lv' := [(0, .ref 9), (3, .int (f_X8_wordHere q1))]) [1, 0] rfl ?_
        exact L_X5_readQuestion_33 hE hΓ hd (f_X8_wordHere q1) q1 _ h hk
set_option maxRecDepth 100000 in
theorem T_X5_readQuestion {E : fhE} {d : Nat} (hE : fhEok fhYF E) (hd : 68 ≤ d) (v1 : Nat) (v2 : Nat) (hv1 : fhiK v1 = true) (hv2 : fhiP v2 = true) (σ : fhM) {o : Int32 × fhM} (h : f_X5_readQuestion v1 v2 σ = some o) : fhC fhYF E d miX5_readQuestion [.ref 9, .ref v1, .ref v2] σ (some (.int o.1)) o.2 := by
  refine fhC.of (y := yX5_readQuestion) (cc := cX5_readQuestion) (nL := 4) (ret := (some .int)) 5 rfl (by decide +kernel) (Nat.le_of_ble_eq_true rfl) ?_
  intro Γ hΓ hR hD hEn
  subst hD; subst hEn
  exact L_X5_readQuestion_E hE hΓ hd v1 v2 hv1 hv2 σ _ h hR
set_option maxRecDepth 100000 in
set_option maxHeartbeats 4000000 in
theorem L_X11_ask_E {Γ : fhX} (hE : fhEok fhYF (fhEn Γ)) (hΓ : fhOk fhYF 11 cX11_ask 3 (some .long) Γ) (hd : 69 ≤ fhD Γ)   (σ : fhM) (o : Int64 × fhM) (h : f_X11_ask σ = some o) (hk : (fun o => fhRet Γ (some (.long o.1)) o.2) o) : fhW fhYF Γ 0 [(0, .ref 0)] [] σ := by
  unfold f_X11_ask at h
  refine fhW.blk fhPF fhLL hΓ [(.aload_n 0, 0)] (pc' := 1) (lv' := [(0, .ref 0)]) (st' := [.ref 0]) (σ' := σ) (by decide +kernel) rfl rfl rfl ?_
  refine fhW.callv hΓ mvX11_takeTape ml_11_120 (t := 0) (ci := 11) (av := []) (rest := []) (r := (some (.int (f_X11_takeTape σ).1))) (σ' := (f_X11_takeTape σ).2) (T_X11_takeTape (E := fhEn Γ) (d := fhD Γ - 1) hE (by omega) σ) (by omega) (by decide +kernel) rfl rfl rfl (Nat.le_of_ble_eq_true rfl) rfl ?_
  show fhW fhYF Γ 4 [(0, .ref 0)] [.int (f_X11_takeTape σ).1] (f_X11_takeTape σ).2
  obtain ⟨q1, e1, h⟩ := fhlet_elim h
  rw [← e1]
  refine fhW.blk fhPF fhLL hΓ [(.istore_n 1, 0), (.aload_n 0, 0), (.getfield 145, 0)] (pc' := 9) (lv' := [(1, .int q1.1), (0, .ref 0)]) (st' := [.int (q1.2.1 0 8)]) (σ' := q1.2) (by decide +kernel) rfl rfl rfl ?_
  refine fhW.z_ne hΓ (tgt := 16) (show fhbk _ _ (.ifCond .ne (7)) _ = true by decide +kernel) (fun hc => ?_) (fun hc => ?_)
  · rw [if_neg hc] at h
    refine fhW.blk fhPF fhLL hΓ [(.aload_n 0, 0), (.getfield 28, 0), (.iconst 0, 0), (.putfield 367, 0), (.aload_n 0, 0), (.getfield 21, 0), (.aload_n 0, 0), (.getfield 14, 0), (.iload_n 1, 0)] (pc' := 33) (lv' := [(1, .int q1.1), (0, .ref 0)]) (st' := [.int q1.1, .ref 1, .ref 3]) (σ' := (fhI q1.2 6 1 (0 : Int32))) (by decide +kernel) rfl rfl rfl ?_
    obtain ⟨q2, hb1, h⟩ := Option.bind_eq_some_iff.mp h
    refine fhW.callv hΓ mvX8_open ml_11_370 (t := 3) (ci := 8) (av := [.ref 1, .int q1.1]) (rest := []) (r := none) (σ' := q2) (T_X8_open (E := fhEn Γ) (d := fhD Γ - 1) hE (by omega) 1 q1.1 rfl (fhI q1.2 6 1 (0 : Int32)) hb1) (by omega) (by decide +kernel) rfl rfl rfl (Nat.le_of_ble_eq_true rfl) rfl ?_
    show fhW fhYF Γ 36 [(1, .int q1.1), (0, .ref 0)] [] q2
    refine fhW.blk fhPF fhLL hΓ [(.aload_n 0, 0), (.getfield 37, 0), (.aload_n 0, 0), (.getfield 28, 0), (.aload_n 0, 0), (.getfield 53, 0)] (pc' := 48) (lv' := [(1, .int q1.1), (0, .ref 0)]) (st' := [.ref (q2.2.2 0 6), .ref 6, .ref 9]) (σ' := q2) (by decide +kernel) rfl rfl rfl ?_
    obtain ⟨hy1, h⟩ := fhif h
    obtain ⟨q3, hb2, h⟩ := Option.bind_eq_some_iff.mp h
    refine fhW.callv hΓ mvX5_readQuestion ml_11_371 (t := 9) (ci := 5) (av := [.ref 6, .ref (q2.2.2 0 6)]) (rest := []) (r := (some (.int q3.1))) (σ' := q3.2) (T_X5_readQuestion (E := fhEn Γ) (d := fhD Γ - 1) hE (by omega) 6 (q2.2.2 0 6) rfl hy1 q2 hb2) (by omega) (by decide +kernel) rfl rfl rfl (Nat.le_of_ble_eq_true rfl) rfl ?_
    show fhW fhYF Γ 51 [(1, .int q1.1), (0, .ref 0)] [.int q3.1] q3.2
    refine fhW.blk fhPF fhLL hΓ [(.istore_n 2, 0), (.aload_n 0, 0)] (pc' := 53) (lv' := [(2, .int q3.1), (1, .int q1.1), (0, .ref 0)]) (st' := [.ref 0]) (σ' := q3.2) (by decide +kernel) rfl rfl rfl ?_
    refine fhW.callv hΓ mvX11_noteFault ml_11_139 (t := 0) (ci := 11) (av := []) (rest := []) (r := none) (σ' := (f_X11_noteFault q3.2)) (T_X11_noteFault (E := fhEn Γ) (d := fhD Γ - 1) hE (by omega) q3.2) (by omega) (by decide +kernel) rfl rfl rfl (Nat.le_of_ble_eq_true rfl) rfl ?_
    show fhW fhYF Γ 56 [(2, .int q3.1), (1, .int q1.1), (0, .ref 0)] [] (f_X11_noteFault q3.2)
    obtain ⟨q4, e2, h⟩ := fhlet_elim h
    rw [← e2]
    refine fhW.blk fhPF fhLL hΓ [(.aload_n 0, 0), (.getfield 142, 0)] (pc' := 60) (lv' := [(2, .int q3.1), (1, .int q1.1), (0, .ref 0)]) (st' := [.int (q4.1 0 17)]) (σ' := q4) (by decide +kernel) rfl rfl rfl ?_
    refine fhW.z_ne hΓ (tgt := 71) (show fhbk _ _ (.ifCond .ne (11)) _ = true by decide +kernel) (fun hc => ?_) (fun hc => ?_)
    · rw [if_neg hc] at h
      refine fhW.blk fhPF fhLL hΓ [(.ldc2_w 365, 0)] (pc' := 74) (lv' := [(2, .int q3.1), (1, .int q1.1), (0, .ref 0)]) (st' := [.long (-1000000000000000 : Int64)]) (σ' := q4) (by decide +kernel) rfl rfl rfl ?_
      have e9 := Option.some.inj h
      subst e9
      exact fhW.lret hΓ (by decide +kernel) hk
    · rw [if_pos hc] at h
      refine fhW.blk fhPF fhLL hΓ [(.aload_n 0, 0), (.iload_n 2, 0)] (pc' := 65) (lv' := [(2, .int q3.1), (1, .int q1.1), (0, .ref 0)]) (st' := [.int q3.1, .ref 0]) (σ' := q4) (by decide +kernel) rfl rfl rfl ?_
      obtain ⟨q5, hb3, h⟩ := Option.bind_eq_some_iff.mp h
      refine fhW.callv hΓ mvX11_answer ml_11_375 (t := 0) (ci := 11) (av := [.int q3.1]) (rest := []) (r := (some (.long q5.1))) (σ' := q5.2) (T_X11_answer (E := fhEn Γ) (d := fhD Γ - 1) hE (by omega) q3.1 q4 hb3) (by omega) (by decide +kernel) rfl rfl rfl (Nat.le_of_ble_eq_true rfl) rfl ?_
      show fhW fhYF Γ 68 [(2, .int q3.1), (1, .int q1.1), (0, .ref 0)] [.long q5.1] q5.2
      refine fhW.goto hΓ (off := 6) (tgt := 74) (by decide +kernel) ?_
      have e9 := Option.some.inj h
      subst e9
      exact fhW.lret hΓ (by decide +kernel) hk
  · rw [if_pos hc] at h
    refine fhW.blk fhPF fhLL hΓ [(.ldc2_w 365, 0)] (pc' := 15) (lv' := [(1, .int q1.1), (0, .ref 0)]) (st' := [.long (-1000000000000000 : Int64)]) (σ' := q1.2) (by decide +kernel) rfl rfl rfl ?_
    have e9 := Option.some.inj h
    subst e9
    exact fhW.lret hΓ (by decide +kernel) hk
set_option maxRecDepth 100000 in
theorem T_X11_ask {E : fhE} {d : Nat} (hE : fhEok fhYF E) (hd : 69 ≤ d)   (σ : fhM) {o : Int64 × fhM} (h : f_X11_ask σ = some o) : fhC fhYF E d miX11_ask [.ref 0] σ (some (.long o.1)) o.2 := by
  refine fhC.of (y := yX11_ask) (cc := cX11_ask) (nL := 3) (ret := (some .long)) 11 rfl (by decide +kernel) (Nat.le_of_ble_eq_true rfl) ?_
  intro Γ hΓ hR hD hEn
  subst hD; subst hEn
  exact L_X11_ask_E hE hΓ hd   σ _ h hR

