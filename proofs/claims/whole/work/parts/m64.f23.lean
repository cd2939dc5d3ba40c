set_option maxRecDepth 100000 in
set_option maxHeartbeats 4000000 in
theorem L_X8_isEnd_E {Γ : fhX} (hE : fhEok fhYF (fhEn Γ)) (hΓ : fhOk fhYF 8 cX8_isEnd 1 (some .boolean) Γ) (hd : 0 ≤ fhD Γ)   (σ : fhM) (o : Bool) (h : f_X8_isEnd σ = o) (hk : (fun o => fhRet Γ (some (.int (fhb o))) σ) o) : fhW fhYF Γ 0 [(0, .ref 3)] [] σ := by
  unfold f_X8_isEnd at h
  refine fhW.blk fhPF fhLL hΓ [(.aload_n 0, 0), (.getfield 75, 0)] (pc' := 4) (lv' := [(0, .ref 3)]) (st' := [.int (σ.1 3 4)]) (σ' := σ) (by decide +kernel) rfl rfl rfl ?_
  refine fhW.z_ne hΓ (tgt := 11) (show fhbk _ _ (.ifCond .ne (7)) _ = true by decide +kernel) (fun hc => ?_) (fun hc => ?_)
  · rw [if_neg hc] at h
    refine fhW.blk fhPF fhLL hΓ [(.iconst 0, 0)] (pc' := 12) (lv' := [(0, .ref 3)]) (st' := [.int (0 : Int32)]) (σ' := σ) (by decide +kernel) rfl rfl rfl ?_
    subst h
    exact fhW.zret (v := false) hΓ (by decide +kernel) hk
  · rw [if_pos hc] at h
    refine fhW.blk fhPF fhLL hΓ [(.iconst 1, 1)] (pc' := 8) (lv' := [(0, .ref 3)]) (st' := [.int (1 : Int32)]) (σ' := σ) (by decide +kernel) rfl rfl rfl ?_
    refine fhW.goto hΓ (off := 4) (tgt := 12) (by decide +kernel) ?_
    subst h
    exact fhW.zret (v := true) hΓ (by decide +kernel) hk
set_option maxRecDepth 100000 in
theorem T_X8_isEnd {E : fhE} {d : Nat} (hE : fhEok fhYF E) (hd : 0 ≤ d)   (σ : fhM) : fhC fhYF E d miX8_isEnd [.ref 3] σ (some (.int (fhb (f_X8_isEnd σ)))) σ := by
  refine fhC.of (y := yX8_isEnd) (cc := cX8_isEnd) (nL := 1) (ret := (some .boolean)) 8 rfl (by decide +kernel) (Nat.le_of_ble_eq_true rfl) ?_
  intro Γ hΓ hR hD hEn
  subst hD; subst hEn
  exact L_X8_isEnd_E hE hΓ hd   σ _ rfl hR
set_option maxRecDepth 100000 in
set_option maxHeartbeats 4000000 in
theorem L_X10_fillFromGuest_109 {Γ : fhX} (hE : fhEok fhYF (fhEn Γ)) (hΓ : fhOk fhYF 10 cX10_fillFromGuest 6 none Γ) (hd : 4 ≤ fhD Γ) (v3 : Int32) (v4 : Int32) (v5 : Int32)  (σ : fhM) (o : (Int32 × fhM) ⊕ (fhM)) (h : f_X10_fillFromGuest_109 v3 v4 v5 σ = some o) (hk : (fhK (fun x => fhW fhYF Γ 109 [(0, .ref 10), (3, .int v3), (4, .int v4), (5, .int x.1)] [] x.2) (fun o => fhRet Γ none o)) o) : fhW fhYF Γ 109 [(0, .ref 10), (3, .int v3), (4, .int v4), (5, .int v5)] [] σ := by
  unfold f_X10_fillFromGuest_109 at h
  refine fhW.blk fhPF fhLL hΓ [(.iload 5, 0), (.iconst 5, 5)] (pc' := 112) (lv' := [(0, .ref 10), (3, .int v3), (4, .int v4), (5, .int v5)]) (st' := [.int (5 : Int32), .int v5]) (σ' := σ) (by decide +kernel) rfl rfl rfl ?_
  refine fhW.i_ge hΓ (tgt := 158) (show fhbk _ _ (.if_icmp .ge (46)) _ = true by decide +kernel) (fun hc => ?_) (fun hc => ?_)
  · rw [if_pos hc] at h
    have e9 := Option.some.inj h
    subst e9
    exact fhW.vret hΓ (by decide +kernel) hk
  · rw [if_neg hc] at h
    refine fhW.blk fhPF fhLL hΓ [(.aload_n 0, 0), (.getfield 14, 0), (.bipush 20, 20), (.iload 5, 0), (.iadd, 0), (.iload_n 3, 0), (.iload 5, 0), (.ishr, 0), (.iconst 1, 1), (.iand, 0)] (pc' := 130) (lv' := [(0, .ref 10), (3, .int v3), (4, .int v4), (5, .int v5)]) (st' := [.int ((v3 >>> (v5 &&& 31)) &&& (1 : Int32)), .int ((20 : Int32) + v5), .ref 11]) (σ' := σ) (by decide +kernel) rfl rfl rfl ?_
    refine fhW.callv hΓ mvX2_put ml_10_26 (t := 11) (ci := 2) (av := [.int ((20 : Int32) + v5), .int ((v3 >>> (v5 &&& 31)) &&& (1 : Int32))]) (rest := []) (r := none) (σ' := (fcP σ 11 ((20 : Int32) + v5) ((v3 >>> (v5 &&& 31)) &&& (1 : Int32)))) (T_X2_put (E := fhEn Γ) (d := fhD Γ - 1) hE (by omega) 11 ((20 : Int32) + v5) ((v3 >>> (v5 &&& 31)) &&& (1 : Int32)) rfl σ) (by omega) (by decide +kernel) rfl rfl rfl (Nat.le_of_ble_eq_true rfl) rfl ?_
    show fhW fhYF Γ 133 [(0, .ref 10), (3, .int v3), (4, .int v4), (5, .int v5)] [] (fcP σ 11 ((20 : Int32) + v5) ((v3 >>> (v5 &&& 31)) &&& (1 : Int32)))
    refine fhW.blk fhPF fhLL hΓ [(.aload_n 0, 0), (.getfield 14, 0), (.bipush 25, 25), (.iload 5, 0), (.iadd, 0), (.iload 4, 0), (.iload 5, 0), (.ishr, 0), (.iconst 1, 1), (.iand, 0)] (pc' := 149) (lv' := [(0, .ref 10), (3, .int v3), (4, .int v4), (5, .int v5)]) (st' := [.int ((v4 >>> (v5 &&& 31)) &&& (1 : Int32)), .int ((25 : Int32) + v5), .ref 11]) (σ' := (fcP σ 11 ((20 : Int32) + v5) ((v3 >>> (v5 &&& 31)) &&& (1 : Int32)))) (by decide +kernel) rfl rfl rfl ?_
    refine fhW.callv hΓ mvX2_put ml_10_26 (t := 11) (ci := 2) (av := [.int ((25 : Int32) + v5), .int ((v4 >>> (v5 &&& 31)) &&& (1 : Int32))]) (rest := []) (r := none) (σ' := (fcP (fcP σ 11 ((20 : Int32) + v5) ((v3 >>> (v5 &&& 31)) &&& (1 : Int32))) 11 ((25 : Int32) + v5) ((v4 >>> (v5 &&& 31)) &&& (1 : Int32)))) (T_X2_put (E := fhEn Γ) (d := fhD Γ - 1) hE (by omega) 11 ((25 : Int32) + v5) ((v4 >>> (v5 &&& 31)) &&& (1 : Int32)) rfl (fcP σ 11 ((20 : Int32) + v5) ((v3 >>> (v5 &&& 31)) &&& (1 : Int32)))) (by omega) (by decide +kernel) rfl rfl rfl (Nat.le_of_ble_eq_true rfl) rfl ?_
    show fhW fhYF Γ 152 [(0, .ref 10), (3, .int v3), (4, .int v4), (5, .int v5)] [] (fcP (fcP σ 11 ((20 : Int32) + v5) ((v3 >>> (v5 &&& 31)) &&& (1 : Int32))) 11 ((25 : Int32) + v5) ((v4 >>> (v5 &&& 31)) &&& (1 : Int32)))
    refine fhW.blk fhPF fhLL hΓ [(.iinc 5 1, 1)] (pc' := 155) (lv' := [(5, .int (v5 + (1 : Int32))), (0, .ref 10), (3, .int v3), (4, .int v4)]) (st' := []) (σ' := (fcP (fcP σ 11 ((20 : Int32) + v5) ((v3 >>> (v5 &&& 31)) &&& (1 : Int32))) 11 ((25 : Int32) + v5) ((v4 >>> (v5 &&& 31)) &&& (1 : Int32)))) (by decide +kernel) rfl rfl rfl ?_
    refine fhW.goto hΓ (off := (-46)) (tgt := 109) (by decide +kernel) ?_
    refine fhW.sub (lv' := [(0, .ref 10), (3, .int v3), (4, .int v4), (5, .int (v5 + (1 : Int32)))]) [1, 2, 3, 0] rfl ?_
    have e9 := Option.some.inj h
    subst e9
    exact hk
set_option maxRecDepth 100000 in
set_option maxHeartbeats 4000000 in
theorem L_X10_fillFromGuest_71 {Γ : fhX} (hE : fhEok fhYF (fhEn Γ)) (hΓ : fhOk fhYF 10 cX10_fillFromGuest 6 none Γ) (hd : 4 ≤ fhD Γ) (v2 : Int32) (s0 : Int32) (s1 : Int32)  (σ : fhM) (o : fhM) (h : f_X10_fillFromGuest_71 v2 s0 s1 σ = some o) (hk : (fun o => fhRet Γ none o) o) : fhW fhYF Γ 71 [(0, .ref 10), (1, .ref 56), (2, .int v2)] [.int s0, .int s1, .ref 11] σ := by
  unfold f_X10_fillFromGuest_71 at h
  refine fhW.callv hΓ mvX2_put ml_10_26 (t := 11) (ci := 2) (av := [.int s1, .int s0]) (rest := []) (r := none) (σ' := (fcP σ 11 s1 s0)) (T_X2_put (E := fhEn Γ) (d := fhD Γ - 1) hE (by omega) 11 s1 s0 rfl σ) (by omega) (by decide +kernel) rfl rfl rfl (Nat.le_of_ble_eq_true rfl) rfl ?_
  show fhW fhYF Γ 74 [(0, .ref 10), (1, .ref 56), (2, .int v2)] [] (fcP σ 11 s1 s0)
  refine fhW.blk fhPF fhLL hΓ [(.aload_n 0, 0), (.getfield 14, 0), (.bipush 14, 14), (.aload_n 1, 0), (.getfield 68, 0)] (pc' := 84) (lv' := [(0, .ref 10), (1, .ref 56), (2, .int v2)]) (st' := [.int (σ.1 56 10), .int (14 : Int32), .ref 11]) (σ' := (fcP σ 11 s1 s0)) (by decide +kernel) rfl rfl rfl ?_
  refine fhW.callv hΓ mvX2_put ml_10_26 (t := 11) (ci := 2) (av := [.int (14 : Int32), .int (σ.1 56 10)]) (rest := []) (r := none) (σ' := (fcP (fcP σ 11 s1 s0) 11 (14 : Int32) (σ.1 56 10))) (T_X2_put (E := fhEn Γ) (d := fhD Γ - 1) hE (by omega) 11 (14 : Int32) (σ.1 56 10) rfl (fcP σ 11 s1 s0)) (by omega) (by decide +kernel) rfl rfl rfl (Nat.le_of_ble_eq_true rfl) rfl ?_
  show fhW fhYF Γ 87 [(0, .ref 10), (1, .ref 56), (2, .int v2)] [] (fcP (fcP σ 11 s1 s0) 11 (14 : Int32) (σ.1 56 10))
  refine fhW.blk fhPF fhLL hΓ [(.aload_n 1, 0), (.getfield 46, 0), (.getfield 71, 0), (.iload_n 2, 0)] (pc' := 95) (lv' := [(0, .ref 10), (1, .ref 56), (2, .int v2)]) (st' := [.int v2, .ref 50]) (σ' := (fcP (fcP σ 11 s1 s0) 11 (14 : Int32) (σ.1 56 10))) (by decide +kernel) rfl rfl rfl ?_
  refine fhW.callv hΓ mvX2_get ml_10_30 (t := 50) (ci := 2) (av := [.int v2]) (rest := []) (r := (some (.int (fcG (fcP (fcP σ 11 s1 s0) 11 (14 : Int32) (σ.1 56 10)) 50 v2)))) (σ' := (fcP (fcP σ 11 s1 s0) 11 (14 : Int32) (σ.1 56 10))) (T_X2_get (E := fhEn Γ) (d := fhD Γ - 1) hE (by omega) 50 v2 rfl (fcP (fcP σ 11 s1 s0) 11 (14 : Int32) (σ.1 56 10))) (by omega) (by decide +kernel) rfl rfl rfl (Nat.le_of_ble_eq_true rfl) rfl ?_
  show fhW fhYF Γ 98 [(0, .ref 10), (1, .ref 56), (2, .int v2)] [.int (fcG (fcP (fcP σ 11 s1 s0) 11 (14 : Int32) (σ.1 56 10)) 50 v2)] (fcP (fcP σ 11 s1 s0) 11 (14 : Int32) (σ.1 56 10))
  refine fhW.blk fhPF fhLL hΓ [(.istore_n 3, 0)] (pc' := 99) (lv' := [(3, .int (fcG (fcP (fcP σ 11 s1 s0) 11 (14 : Int32) (σ.1 56 10)) 50 v2)), (0, .ref 10), (1, .ref 56), (2, .int v2)]) (st' := []) (σ' := (fcP (fcP σ 11 s1 s0) 11 (14 : Int32) (σ.1 56 10))) (by decide +kernel) rfl rfl rfl ?_
  obtain ⟨w3_1, e1, h⟩ := fhlet_elim h
  rw [← e1]
  refine fhW.blk fhPF fhLL hΓ [(.aload_n 1, 0), (.iload_n 2, 0)] (pc' := 101) (lv' := [(3, .int w3_1), (0, .ref 10), (1, .ref 56), (2, .int v2)]) (st' := [.int v2, .ref 56]) (σ' := (fcP (fcP σ 11 s1 s0) 11 (14 : Int32) (σ.1 56 10))) (by decide +kernel) rfl rfl rfl ?_
  obtain ⟨q2, hb1, h⟩ := Option.bind_eq_some_iff.mp h
  refine fhW.callv hΓ mvX4_marksHeld ml_10_74 (t := 56) (ci := 4) (av := [.int v2]) (rest := []) (r := (some (.int q2))) (σ' := (fcP (fcP σ 11 s1 s0) 11 (14 : Int32) (σ.1 56 10))) (T_X4_marksHeld (E := fhEn Γ) (d := fhD Γ - 1) hE (by omega) v2 (fcP (fcP σ 11 s1 s0) 11 (14 : Int32) (σ.1 56 10)) hb1) (by omega) (by decide +kernel) rfl rfl rfl (Nat.le_of_ble_eq_true rfl) rfl ?_
  show fhW fhYF Γ 104 [(3, .int w3_1), (0, .ref 10), (1, .ref 56), (2, .int v2)] [.int q2] (fcP (fcP σ 11 s1 s0) 11 (14 : Int32) (σ.1 56 10))
  refine fhW.blk fhPF fhLL hΓ [(.istore 4, 0), (.iconst 0, 0), (.istore 5, 0)] (pc' := 109) (lv' := [(5, .int (0 : Int32)), (4, .int q2), (3, .int w3_1), (0, .ref 10), (1, .ref 56), (2, .int v2)]) (st' := []) (σ' := (fcP (fcP σ 11 s1 s0) 11 (14 : Int32) (σ.1 56 10))) (by decide +kernel) rfl rfl rfl ?_
  refine fhW.sub (lv' := [(0, .ref 10), (3, .int w3_1), (4, .int q2), (5, .int (0 : Int32))]) [3, 2, 1, 0] rfl ?_
  exact fhlp_ok (W := (fun x => fhW fhYF Γ 109 [(0, .ref 10), (3, .int w3_1), (4, .int q2), (5, .int x.1)] [] x.2)) (B := (fun o => fhRet Γ none o)) (fun x o h hk => L_X10_fillFromGuest_109 hE hΓ hd w3_1 q2 x.1 x.2 o h hk) ((0 : Int32), (fcP (fcP σ 11 s1 s0) 11 (14 : Int32) (σ.1 56 10))) _ h hk
set_option maxRecDepth 100000 in
set_option maxHeartbeats 4000000 in
theorem L_X10_fillFromGuest_E {Γ : fhX} (hE : fhEok fhYF (fhEn Γ)) (hΓ : fhOk fhYF 10 cX10_fillFromGuest 6 none Γ) (hd : 4 ≤ fhD Γ) (v2 : Int32)  (σ : fhM) (o : fhM) (h : f_X10_fillFromGuest v2 σ = some o) (hk : (fun o => fhRet Γ none o) o) : fhW fhYF Γ 0 [(0, .ref 10), (1, .ref 56), (2, .int v2)] [] σ := by
  unfold f_X10_fillFromGuest at h
  refine fhW.blk fhPF fhLL hΓ [(.aload_n 0, 0), (.getfield 14, 0)] (pc' := 4) (lv' := [(0, .ref 10), (1, .ref 56), (2, .int v2)]) (st' := [.ref 11]) (σ' := σ) (by decide +kernel) rfl rfl rfl ?_
  refine fhW.callv hΓ mvX2_wipe ml_10_23 (t := 11) (ci := 2) (av := []) (rest := []) (r := none) (σ' := (fcW σ 11)) (T_X2_wipe (E := fhEn Γ) (d := fhD Γ - 1) hE (by omega) 11 rfl σ) (by omega) (by decide +kernel) rfl rfl rfl (Nat.le_of_ble_eq_true rfl) rfl ?_
  show fhW fhYF Γ 7 [(0, .ref 10), (1, .ref 56), (2, .int v2)] [] (fcW σ 11)
  refine fhW.blk fhPF fhLL hΓ [(.aload_n 0, 0), (.getfield 14, 0), (.bipush 10, 10), (.iload_n 2, 0)] (pc' := 14) (lv' := [(0, .ref 10), (1, .ref 56), (2, .int v2)]) (st' := [.int v2, .int (10 : Int32), .ref 11]) (σ' := (fcW σ 11)) (by decide +kernel) rfl rfl rfl ?_
  refine fhW.callv hΓ mvX2_put ml_10_26 (t := 11) (ci := 2) (av := [.int (10 : Int32), .int v2]) (rest := []) (r := none) (σ' := (fcP (fcW σ 11) 11 (10 : Int32) v2)) (T_X2_put (E := fhEn Γ) (d := fhD Γ - 1) hE (by omega) 11 (10 : Int32) v2 rfl (fcW σ 11)) (by omega) (by decide +kernel) rfl rfl rfl (Nat.le_of_ble_eq_true rfl) rfl ?_
  show fhW fhYF Γ 17 [(0, .ref 10), (1, .ref 56), (2, .int v2)] [] (fcP (fcW σ 11) 11 (10 : Int32) v2)
  refine fhW.blk fhPF fhLL hΓ [(.aload_n 0, 0), (.getfield 14, 0), (.bipush 11, 11), (.aload_n 1, 0), (.getfield 46, 0), (.aload_n 1, 0), (.getfield 52, 0), (.iload_n 2, 0)] (pc' := 32) (lv' := [(0, .ref 10), (1, .ref 56), (2, .int v2)]) (st' := [.int v2, .int (σ.1 56 9), .ref 39, .int (11 : Int32), .ref 11]) (σ' := (fcP (fcW σ 11) 11 (10 : Int32) v2)) (by decide +kernel) rfl rfl rfl ?_
  refine fhW.callv hΓ mvX9_markOf ml_10_56 (t := 39) (ci := 9) (av := [.int (σ.1 56 9), .int v2]) (rest := [.int (11 : Int32), .ref 11]) (r := (some (.int (f_X9_markOf (σ.1 56 9) v2 (fcP (fcW σ 11) 11 (10 : Int32) v2))))) (σ' := (fcP (fcW σ 11) 11 (10 : Int32) v2)) (T_X9_markOf (E := fhEn Γ) (d := fhD Γ - 1) hE (by omega) (σ.1 56 9) v2 (fcP (fcW σ 11) 11 (10 : Int32) v2)) (by omega) (by decide +kernel) rfl rfl rfl (Nat.le_of_ble_eq_true rfl) rfl ?_
  show fhW fhYF Γ 35 [(0, .ref 10), (1, .ref 56), (2, .int v2)] [.int (f_X9_markOf (σ.1 56 9) v2 (fcP (fcW σ 11) 11 (10 : Int32) v2)), .int (11 : Int32), .ref 11] (fcP (fcW σ 11) 11 (10 : Int32) v2)
  refine fhW.callv hΓ mvX2_put ml_10_26 (t := 11) (ci := 2) (av := [.int (11 : Int32), .int (f_X9_markOf (σ.1 56 9) v2 (fcP (fcW σ 11) 11 (10 : Int32) v2))]) (rest := []) (r := none) (σ' := (fcP (fcP (fcW σ 11) 11 (10 : Int32) v2) 11 (11 : Int32) (f_X9_markOf (σ.1 56 9) v2 (fcP (fcW σ 11) 11 (10 : Int32) v2)))) (T_X2_put (E := fhEn Γ) (d := fhD Γ - 1) hE (by omega) 11 (11 : Int32) (f_X9_markOf (σ.1 56 9) v2 (fcP (fcW σ 11) 11 (10 : Int32) v2)) rfl (fcP (fcW σ 11) 11 (10 : Int32) v2)) (by omega) (by decide +kernel) rfl rfl rfl (Nat.le_of_ble_eq_true rfl) rfl ?_
  show fhW fhYF Γ 38 [(0, .ref 10), (1, .ref 56), (2, .int v2)] [] (fcP (fcP (fcW σ 11) 11 (10 : Int32) v2) 11 (11 : Int32) (f_X9_markOf (σ.1 56 9) v2 (fcP (fcW σ 11) 11 (10 : Int32) v2)))
  refine fhW.blk fhPF fhLL hΓ [(.aload_n 0, 0), (.getfield 14, 0), (.bipush 12, 12), (.aload_n 1, 0), (.iload_n 2, 0)] (pc' := 46) (lv' := [(0, .ref 10), (1, .ref 56), (2, .int v2)]) (st' := [.int v2, .ref 56, .int (12 : Int32), .ref 11]) (σ' := (fcP (fcP (fcW σ 11) 11 (10 : Int32) v2) 11 (11 : Int32) (f_X9_markOf (σ.1 56 9) v2 (fcP (fcW σ 11) 11 (10 : Int32) v2)))) (by decide +kernel) rfl rfl rfl ?_
  obtain ⟨q1, hb2, h⟩ := Option.bind_eq_some_iff.mp h
  refine fhW.callv hΓ mvX4_countRowsOf ml_10_61 (t := 56) (ci := 4) (av := [.int v2]) (rest := [.int (12 : Int32), .ref 11]) (r := (some (.int q1))) (σ' := (fcP (fcP (fcW σ 11) 11 (10 : Int32) v2) 11 (11 : Int32) (f_X9_markOf (σ.1 56 9) v2 (fcP (fcW σ 11) 11 (10 : Int32) v2)))) (T_X4_countRowsOf (E := fhEn Γ) (d := fhD Γ - 1) hE (by omega) v2 (fcP (fcP (fcW σ 11) 11 (10 : Int32) v2) 11 (11 : Int32) (f_X9_markOf (σ.1 56 9) v2 (fcP (fcW σ 11) 11 (10 : Int32) v2))) hb2) (by omega) (by decide +kernel) rfl rfl rfl (Nat.le_of_ble_eq_true rfl) rfl ?_
  show fhW fhYF Γ 49 [(0, .ref 10), (1, .ref 56), (2, .int v2)] [.int q1, .int (12 : Int32), .ref 11] (fcP (fcP (fcW σ 11) 11 (10 : Int32) v2) 11 (11 : Int32) (f_X9_markOf (σ.1 56 9) v2 (fcP (fcW σ 11) 11 (10 : Int32) v2)))
  refine fhW.callv hΓ mvX2_put ml_10_26 (t := 11) (ci := 2) (av := [.int (12 : Int32), .int q1]) (rest := []) (r := none) (σ' := (fcP (fcP (fcP (fcW σ 11) 11 (10 : Int32) v2) 11 (11 : Int32) (f_X9_markOf (σ.1 56 9) v2 (fcP (fcW σ 11) 11 (10 : Int32) v2))) 11 (12 : Int32) q1)) (T_X2_put (E := fhEn Γ) (d := fhD Γ - 1) hE (by omega) 11 (12 : Int32) q1 rfl (fcP (fcP (fcW σ 11) 11 (10 : Int32) v2) 11 (11 : Int32) (f_X9_markOf (σ.1 56 9) v2 (fcP (fcW σ 11) 11 (10 : Int32) v2)))) (by omega) (by decide +kernel) rfl rfl rfl (Nat.le_of_ble_eq_true rfl) rfl ?_
  show fhW fhYF Γ 52 [(0, .ref 10), (1, .ref 56), (2, .int v2)] [] (fcP (fcP (fcP (fcW σ 11) 11 (10 : Int32) v2) 11 (11 : Int32) (f_X9_markOf (σ.1 56 9) v2 (fcP (fcW σ 11) 11 (10 : Int32) v2))) 11 (12 : Int32) q1)
  refine fhW.blk fhPF fhLL hΓ [(.aload_n 0, 0), (.getfield 14, 0), (.bipush 13, 13), (.aload_n 1, 0), (.iload_n 2, 0)] (pc' := 60) (lv' := [(0, .ref 10), (1, .ref 56), (2, .int v2)]) (st' := [.int v2, .ref 56, .int (13 : Int32), .ref 11]) (σ' := (fcP (fcP (fcP (fcW σ 11) 11 (10 : Int32) v2) 11 (11 : Int32) (f_X9_markOf (σ.1 56 9) v2 (fcP (fcW σ 11) 11 (10 : Int32) v2))) 11 (12 : Int32) q1)) (by decide +kernel) rfl rfl rfl ?_
  refine fhW.callv hΓ mvX4_isKnower ml_10_64 (t := 56) (ci := 4) (av := [.int v2]) (rest := [.int (13 : Int32), .ref 11]) (r := (some (.int (fhb (f_X4_isKnower v2 (fcP (fcP (fcP (fcW σ 11) 11 (10 : Int32) v2) 11 (11 : Int32) (f_X9_markOf (σ.1 56 9) v2 (fcP (fcW σ 11) 11 (10 : Int32) v2))) 11 (12 : Int32) q1)))))) (σ' := (fcP (fcP (fcP (fcW σ 11) 11 (10 : Int32) v2) 11 (11 : Int32) (f_X9_markOf (σ.1 56 9) v2 (fcP (fcW σ 11) 11 (10 : Int32) v2))) 11 (12 : Int32) q1)) (T_X4_isKnower (E := fhEn Γ) (d := fhD Γ - 1) hE (by omega) v2 (fcP (fcP (fcP (fcW σ 11) 11 (10 : Int32) v2) 11 (11 : Int32) (f_X9_markOf (σ.1 56 9) v2 (fcP (fcW σ 11) 11 (10 : Int32) v2))) 11 (12 : Int32) q1)) (by omega) (by decide +kernel) rfl rfl rfl (Nat.le_of_ble_eq_true rfl) rfl ?_
  show fhW fhYF Γ 63 [(0, .ref 10), (1, .ref 56), (2, .int v2)] [.int (fhb (f_X4_isKnower v2 (fcP (fcP (fcP (fcW σ 11) 11 (10 : Int32) v2) 11 (11 : Int32) (f_X9_markOf (σ.1 56 9) v2 (fcP (fcW σ 11) 11 (10 : Int32) v2))) 11 (12 : Int32) q1))), .int (13 : Int32), .ref 11] (fcP (fcP (fcP (fcW σ 11) 11 (10 : Int32) v2) 11 (11 : Int32) (f_X9_markOf (σ.1 56 9) v2 (fcP (fcW σ 11) 11 (10 : Int32) v2))) 11 (12 : Int32) q1)
  refine fhW.b_eq hΓ (tgt := 70) (show fhbk _ _ (.ifCond .eq (7)) _ = true by decide +kernel) (fun hc => ?_) (fun hc => ?_)
  · simp only [if_neg hc] at h
    refine fhW.blk fhPF fhLL hΓ [(.iconst 0, 0)] (pc' := 71) (lv' := [(0, .ref 10), (1, .ref 56), (2, .int v2)]) (st' := [.int (0 : Int32), .int (13 : Int32), .ref 11]) (σ' := (fcP (fcP (fcP (fcW σ 11) 11 (10 : Int32) v2) 11 (11 : Int32) (f_X9_markOf (σ.1 56 9) v2 (fcP (fcW σ 11) 11 (10 : Int32) v2))) 11 (12 : Int32) q1)) (by decide +kernel) rfl rfl rfl ?_
    refine fhW.sub (lv' := [(0, .ref 10), (1, .ref 56), (2, .int v2)]) [0, 1, 2] rfl ?_
    exact L_X10_fillFromGuest_71 hE hΓ hd v2 (0 : Int32) (13 : Int32) (fcP (fcP (fcP (fcW σ 11) 11 (10 : Int32) v2) 11 (11 : Int32) (f_X9_markOf (σ.1 56 9) v2 (fcP (fcW σ 11) 11 (10 : Int32) v2))) 11 (12 : Int32) q1) _ h hk
  · simp only [if_pos hc] at h
    refine fhW.blk fhPF fhLL hΓ [(.iconst 1, 1)] (pc' := 67) (lv' := [(0, .ref 10), (1, .ref 56), (2, .int v2)]) (st' := [.int (1 : Int32), .int (13 : Int32), .ref 11]) (σ' := (fcP (fcP (fcP (fcW σ 11) 11 (10 : Int32) v2) 11 (11 : Int32) (f_X9_markOf (σ.1 56 9) v2 (fcP (fcW σ 11) 11 (10 : Int32) v2))) 11 (12 : Int32) q1)) (by decide +kernel) rfl rfl rfl ?_
    refine fhW.goto hΓ (off := 4) (tgt := 71) (by decide +kernel) ?_
    refine fhW.sub (lv' := [(0, .ref 10), (1, .ref 56), (2, .int v2)]) [0, 1, 2] rfl ?_
    exact L_X10_fillFromGuest_71 hE hΓ hd v2 (1 : Int32) (13 : Int32) (fcP (fcP (fcP (fcW σ 11) 11 (10 : Int32) v2) 11 (11 : Int32) (f_X9_markOf (σ.1 56 9) v2 (fcP (fcW σ 11) 11 (10 : Int32) v2))) 11 (12 : Int32) q1) _ h hk
set_option maxRecDepth 100000 in
theorem T_X10_fillFromGuest {E : fhE} {d : Nat} (hE : fhEok fhYF E) (hd : 4 ≤ d) (v2 : Int32)  (σ : fhM) {o : fhM} (h : f_X10_fillFromGuest v2 σ = some o) : fhC fhYF E d miX10_fillFromGuest [.ref 10, .ref 56, .int v2] σ none o := by
  refine fhC.of (y := yX10_fillFromGuest) (cc := cX10_fillFromGuest) (nL := 6) (ret := none) 10 rfl (by decide +kernel) (Nat.le_of_ble_eq_true rfl) ?_
  intro Γ hΓ hR hD hEn
  subst hD; subst hEn
  exact L_X10_fillFromGuest_E hE hΓ hd v2  σ _ h hR
set_option maxRecDepth 100000 in
set_option maxHeartbeats 4000000 in
theorem L_X11_answer_132 {Γ : fhX} (hE : fhEok fhYF (fhEn Γ)) (hΓ : fhOk fhYF 11 cX11_answer 11 (some .long) Γ) (hd : 5 ≤ fhD Γ) (v1 : Int32) (v2 : Int32) (v3 : Int32) (v4 : Int32) (v5 : Int64) (v7 : Int32) (v9 : Int32) (s0 : Int32)  (σ : fhM) (o : (Int32 × Int32 × Int32 × Int64 × Int32 × Int32 × Int32 × fhM) ⊕ (Int64 × fhM)) (h : f_X11_answer_132 v1 v2 v3 v4 v5 v7 v9 s0 σ = some o) (hk : (fhK (fun x => fhW fhYF Γ 19 [(0, .ref 0), (1, .int v1), (2, .int x.1), (3, .int x.2.1), (4, .int x.2.2.1), (5, .long x.2.2.2.1), (7, .int x.2.2.2.2.1), (8, .int x.2.2.2.2.2.1), (9, .int x.2.2.2.2.2.2.1)] [] x.2.2.2.2.2.2.2) (fun o => fhRet Γ (some (.long o.1)) o.2)) o) : fhW fhYF Γ 132 [(0, .ref 0), (1, .int v1), (2, .int v2), (3, .int v3), (4, .int v4), (5, .long v5), (7, .int v7), (9, .int v9)] [.int s0] σ := by
  unfold f_X11_answer_132 at h
  refine fhW.blk fhPF fhLL hΓ [(.istore 8, 0), (.iinc 9 1, 1)] (pc' := 137) (lv' := [(9, .int (v9 + (1 : Int32))), (8, .int s0), (0, .ref 0), (1, .int v1), (2, .int v2), (3, .int v3), (4, .int v4), (5, .long v5), (7, .int v7)]) (st' := []) (σ' := σ) (by decide +kernel) rfl rfl rfl ?_
  refine fhW.goto hΓ (off := (-118)) (tgt := 19) (by decide +kernel) ?_
  refine fhW.sub (lv' := [(0, .ref 0), (1, .int v1), (2, .int v2), (3, .int v3), (4, .int v4), (5, .long v5), (7, .int v7), (8, .int s0), (9, .int (v9 + (1 : Int32)))]) [2, 3, 4, 5, 6, 7, 8, 1, 0] rfl ?_
  have e9 := Option.some.inj h
  subst e9
  exact hk
set_option maxRecDepth 100000 in
set_option maxHeartbeats 4000000 in
theorem L_X11_answer_113 {Γ : fhX} (hE : fhEok fhYF (fhEn Γ)) (hΓ : fhOk fhYF 11 cX11_answer 11 (some .long) Γ) (hd : 5 ≤ fhD Γ) (v1 : Int32) (v2 : Int32) (v3 : Int32) (v4 : Int32) (v5 : Int64) (v8 : Int32) (v9 : Int32) (v10 : Int32) (s0 : Int32)  (σ : fhM) (o : (Int32 × Int32 × Int32 × Int64 × Int32 × Int32 × Int32 × fhM) ⊕ (Int64 × fhM)) (h : f_X11_answer_113 v1 v2 v3 v4 v5 v8 v9 v10 s0 σ = some o) (hk : (fhK (fun x => fhW fhYF Γ 19 [(0, .ref 0), (1, .int v1), (2, .int x.1), (3, .int x.2.1), (4, .int x.2.2.1), (5, .long x.2.2.2.1), (7, .int x.2.2.2.2.1), (8, .int x.2.2.2.2.2.1), (9, .int x.2.2.2.2.2.2.1)] [] x.2.2.2.2.2.2.2) (fun o => fhRet Γ (some (.long o.1)) o.2)) o) : fhW fhYF Γ 113 [(0, .ref 0), (1, .int v1), (2, .int v2), (3, .int v3), (4, .int v4), (5, .long v5), (8, .int v8), (9, .int v9), (10, .int v10)] [.int s0] σ := by
  unfold f_X11_answer_113 at h
  refine fhW.blk fhPF fhLL hΓ [(.istore 7, 0), (.iload 9, 0)] (pc' := 117) (lv' := [(7, .int s0), (0, .ref 0), (1, .int v1), (2, .int v2), (3, .int v3), (4, .int v4), (5, .long v5), (8, .int v8), (9, .int v9), (10, .int v10)]) (st' := [.int v9]) (σ' := σ) (by decide +kernel) rfl rfl rfl ?_
  refine fhW.z_ne hΓ (tgt := 125) (show fhbk _ _ (.ifCond .ne (8)) _ = true by decide +kernel) (fun hc => ?_) (fun hc => ?_)
  · simp only [if_neg hc] at h
    refine fhW.blk fhPF fhLL hΓ [(.iload 8, 0), (.iload 10, 0)] (pc' := 129) (lv' := [(7, .int s0), (0, .ref 0), (1, .int v1), (2, .int v2), (3, .int v3), (4, .int v4), (5, .long v5), (8, .int v8), (9, .int v9), (10, .int v10)]) (st' := [.int v10, .int v8]) (σ' := σ) (by decide +kernel) rfl rfl rfl ?_
    refine fhW.calls hΓ msJ9_min_7cf53 ml_11_392 (av := [.int v8, .int v10]) (rest := []) (r := (some (.int (f_J9_min_7cf53 v8 v10 σ)))) (σ' := σ) (T_J9_min_7cf53 (E := fhEn Γ) (d := fhD Γ - 1) hE (by omega) v8 v10 σ) (by omega) (by decide +kernel) rfl (Nat.le_of_ble_eq_true rfl) rfl ?_
    show fhW fhYF Γ 132 [(7, .int s0), (0, .ref 0), (1, .int v1), (2, .int v2), (3, .int v3), (4, .int v4), (5, .long v5), (8, .int v8), (9, .int v9), (10, .int v10)] [.int (f_J9_min_7cf53 v8 v10 σ)] σ
    refine fhW.sub (lv' := [(0, .ref 0), (1, .int v1), (2, .int v2), (3, .int v3), (4, .int v4), (5, .long v5), (7, .int s0), (9, .int v9)]) [1, 2, 3, 4, 5, 6, 0, 8] rfl ?_
    exact L_X11_answer_132 hE hΓ hd v1 v2 v3 v4 v5 s0 v9 (f_J9_min_7cf53 v8 v10 σ) σ _ h hk
  · simp only [if_pos hc] at h
    refine fhW.blk fhPF fhLL hΓ [(.iload 10, 0)] (pc' := 122) (lv' := [(7, .int s0), (0, .ref 0), (1, .int v1), (2, .int v2), (3, .int v3), (4, .int v4), (5, .long v5), (8, .int v8), (9, .int v9), (10, .int v10)]) (st' := [.int v10]) (σ' := σ) (by decide +kernel) rfl rfl rfl ?_
    refine fhW.goto hΓ (off := 10) (tgt := 132) (by decide +kernel) ?_
    refine fhW.sub (lv' := [(0, .ref 0), (1, .int v1), (2, .int v2), (3, .int v3), (4, .int v4), (5, .long v5), (7, .int s0), (9, .int v9)]) [1, 2, 3, 4, 5, 6, 0, 8] rfl ?_
    exact L_X11_answer_132 hE hΓ hd v1 v2 v3 v4 v5 s0 v9 v10 σ _ h hk
set_option maxRecDepth 100000 in
set_option maxHeartbeats 4000000 in
theorem L_X11_answer_88 {Γ : fhX} (hE : fhEok fhYF (fhEn Γ)) (hΓ : fhOk fhYF 11 cX11_answer 11 (some .long) Γ) (hd : 5 ≤ fhD Γ) (v1 : Int32) (v2 : Int32) (v3 : Int32) (v4 : Int32) (v5 : Int64) (v7 : Int32) (v8 : Int32) (v9 : Int32) (v10 : Int32)  (σ : fhM) (o : (Int32 × Int32 × Int32 × Int64 × Int32 × Int32 × Int32 × fhM) ⊕ (Int64 × fhM)) (h : f_X11_answer_88 v1 v2 v3 v4 v5 v7 v8 v9 v10 σ = some o) (hk : (fhK (fun x => fhW fhYF Γ 19 [(0, .ref 0), (1, .int v1), (2, .int x.1), (3, .int x.2.1), (4, .int x.2.2.1), (5, .long x.2.2.2.1), (7, .int x.2.2.2.2.1), (8, .int x.2.2.2.2.2.1), (9, .int x.2.2.2.2.2.2.1)] [] x.2.2.2.2.2.2.2) (fun o => fhRet Γ (some (.long o.1)) o.2)) o) : fhW fhYF Γ 88 [(0, .ref 0), (1, .int v1), (2, .int v2), (3, .int v3), (4, .int v4), (5, .long v5), (7, .int v7), (8, .int v8), (9, .int v9), (10, .int v10)] [] σ := by
  unfold f_X11_answer_88 at h
  refine fhW.blk fhPF fhLL hΓ [(.lload 5, 0), (.iload 10, 0), (.i2l, 0), (.ladd, 0), (.lstore 5, 0), (.iload 9, 0)] (pc' := 98) (lv' := [(5, .long (v5 + (Int32.toInt64 v10))), (0, .ref 0), (1, .int v1), (2, .int v2), (3, .int v3), (4, .int v4), (7, .int v7), (8, .int v8), (9, .int v9), (10, .int v10)]) (st' := [.int v9]) (σ' := σ) (by decide +kernel) rfl rfl rfl ?_
  refine fhW.z_ne hΓ (tgt := 106) (show fhbk _ _ (.ifCond .ne (8)) _ = true by decide +kernel) (fun hc => ?_) (fun hc => ?_)
  · simp only [if_neg hc] at h
    refine fhW.blk fhPF fhLL hΓ [(.iload 7, 0), (.iload 10, 0)] (pc' := 110) (lv' := [(5, .long (v5 + (Int32.toInt64 v10))), (0, .ref 0), (1, .int v1), (2, .int v2), (3, .int v3), (4, .int v4), (7, .int v7), (8, .int v8), (9, .int v9), (10, .int v10)]) (st' := [.int v10, .int v7]) (σ' := σ) (by decide +kernel) rfl rfl rfl ?_
    refine fhW.calls hΓ msJ9_max_7cf53 ml_11_387 (av := [.int v7, .int v10]) (rest := []) (r := (some (.int (f_J9_max_7cf53 v7 v10 σ)))) (σ' := σ) (T_J9_max_7cf53 (E := fhEn Γ) (d := fhD Γ - 1) hE (by omega) v7 v10 σ) (by omega) (by decide +kernel) rfl (Nat.le_of_ble_eq_true rfl) rfl ?_
    show fhW fhYF Γ 113 [(5, .long (v5 + (Int32.toInt64 v10))), (0, .ref 0), (1, .int v1), (2, .int v2), (3, .int v3), (4, .int v4), (7, .int v7), (8, .int v8), (9, .int v9), (10, .int v10)] [.int (f_J9_max_7cf53 v7 v10 σ)] σ
    refine fhW.sub (lv' := [(0, .ref 0), (1, .int v1), (2, .int v2), (3, .int v3), (4, .int v4), (5, .long (v5 + (Int32.toInt64 v10))), (8, .int v8), (9, .int v9), (10, .int v10)]) [1, 2, 3, 4, 5, 0, 7, 8, 9] rfl ?_
    exact L_X11_answer_113 hE hΓ hd v1 v2 v3 v4 (v5 + (Int32.toInt64 v10)) v8 v9 v10 (f_J9_max_7cf53 v7 v10 σ) σ _ h hk
  · simp only [if_pos hc] at h
    refine fhW.blk fhPF fhLL hΓ [(.iload 10, 0)] (pc' := 103) (lv' := [(5, .long (v5 + (Int32.toInt64 v10))), (0, .ref 0), (1, .int v1), (2, .int v2), (3, .int v3), (4, .int v4), (7, .int v7), (8, .int v8), (9, .int v9), (10, .int v10)]) (st' := [.int v10]) (σ' := σ) (by decide +kernel) rfl rfl rfl ?_
    refine fhW.goto hΓ (off := 10) (tgt := 113) (by decide +kernel) ?_
    refine fhW.sub (lv' := [(0, .ref 0), (1, .int v1), (2, .int v2), (3, .int v3), (4, .int v4), (5, .long (v5 + (Int32.toInt64 v10))), (8, .int v8), (9, .int v9), (10, .int v10)]) [1, 2, 3, 4, 5, 0, 7, 8, 9] rfl ?_
    exact L_X11_answer_113 hE hΓ hd v1 v2 v3 v4 (v5 + (Int32.toInt64 v10)) v8 v9 v10 v10 σ _ h hk
set_option maxRecDepth 100000 in
set_option maxHeartbeats 4000000 in
theorem L_X11_answer_81 {Γ : fhX} (hE : fhEok fhYF (fhEn Γ)) (hΓ : fhOk fhYF 11 cX11_answer 11 (some .long) Γ) (hd : 5 ≤ fhD Γ) (v1 : Int32) (v4 : Int32) (v5 : Int64) (v7 : Int32) (v8 : Int32) (v9 : Int32) (v10 : Int32) (s0 : Int32)  (σ : fhM) (o : (Int32 × Int32 × Int32 × Int64 × Int32 × Int32 × Int32 × fhM) ⊕ (Int64 × fhM)) (h : f_X11_answer_81 v1 v4 v5 v7 v8 v9 v10 s0 σ = some o) (hk : (fhK (fun x => fhW fhYF Γ 19 [(0, .ref 0), (1, .int v1), (2, .int x.1), (3, .int x.2.1), (4, .int x.2.2.1), (5, .long x.2.2.2.1), (7, .int x.2.2.2.2.1), (8, .int x.2.2.2.2.2.1), (9, .int x.2.2.2.2.2.2.1)] [] x.2.2.2.2.2.2.2) (fun o => fhRet Γ (some (.long o.1)) o.2)) o) : fhW fhYF Γ 81 [(0, .ref 0), (1, .int v1), (4, .int v4), (5, .long v5), (7, .int v7), (8, .int v8), (9, .int v9), (10, .int v10)] [.int s0] σ := by
  unfold f_X11_answer_81 at h
  refine fhW.blk fhPF fhLL hΓ [(.istore_n 2, 0), (.iload 9, 0), (.istore_n 3, 0), (.iinc 4 1, 1)] (pc' := 88) (lv' := [(4, .int (v4 + (1 : Int32))), (3, .int v9), (2, .int s0), (0, .ref 0), (1, .int v1), (5, .long v5), (7, .int v7), (8, .int v8), (9, .int v9), (10, .int v10)]) (st' := []) (σ' := σ) (by decide +kernel) rfl rfl rfl ?_
  refine fhW.sub (lv' := [(0, .ref 0), (1, .int v1), (2, .int s0), (3, .int v9), (4, .int (v4 + (1 : Int32))), (5, .long v5), (7, .int v7), (8, .int v8), (9, .int v9), (10, .int v10)]) [3, 4, 2, 1, 0, 5, 6, 7, 8, 9] rfl ?_
  exact L_X11_answer_88 hE hΓ hd v1 s0 v9 (v4 + (1 : Int32)) v5 v7 v8 v9 v10 σ _ h hk
set_option maxRecDepth 100000 in
set_option maxHeartbeats 4000000 in
theorem L_X11_answer_19 {Γ : fhX} (hE : fhEok fhYF (fhEn Γ)) (hΓ : fhOk fhYF 11 cX11_answer 11 (some .long) Γ) (hd : 5 ≤ fhD Γ) (v1 : Int32) (v2 : Int32) (v3 : Int32) (v4 : Int32) (v5 : Int64) (v7 : Int32) (v8 : Int32) (v9 : Int32)  (σ : fhM) (o : (Int32 × Int32 × Int32 × Int64 × Int32 × Int32 × Int32 × fhM) ⊕ (Int64 × fhM)) (h : f_X11_answer_19 v1 v2 v3 v4 v5 v7 v8 v9 σ = some o) (hk : (fhK (fun x => fhW fhYF Γ 19 [(0, .ref 0), (1, .int v1), (2, .int x.1), (3, .int x.2.1), (4, .int x.2.2.1), (5, .long x.2.2.2.1), (7, .int x.2.2.2.2.1), (8, .int x.2.2.2.2.2.1), (9, .int x.2.2.2.2.2.2.1)] [] x.2.2.2.2.2.2.2) (fun o => fhRet Γ (some (.long o.1)) o.2)) o) : fhW fhYF Γ 19 [(0, .ref 0), (1, .int v1), (2, .int v2), (3, .int v3), (4, .int v4), (5, .long v5), (7, .int v7), (8, .int v8), (9, .int v9)] [] σ := by
  unfold f_X11_answer_19 at h
  refine fhW.blk fhPF fhLL hΓ [(.iload 9, 0), (.aload_n 0, 0), (.getfield 63, 0), (.getfield 177, 0)] (pc' := 28) (lv' := [(0, .ref 0), (1, .int v1), (2, .int v2), (3, .int v3), (4, .int v4), (5, .long v5), (7, .int v7), (8, .int v8), (9, .int v9)]) (st' := [.int (σ.1 39 9), .int v9]) (σ' := σ) (by decide +kernel) rfl rfl rfl ?_
  refine fhW.i_ge hΓ (tgt := 140) (show fhbk _ _ (.if_icmp .ge (112)) _ = true by decide +kernel) (fun hc => ?_) (fun hc => ?_)
  · rw [if_pos hc] at h
    refine fhW.blk fhPF fhLL hΓ [(.iload_n 1, 0)] (pc' := 141) (lv' := [(0, .ref 0), (1, .int v1), (2, .int v2), (3, .int v3), (4, .int v4), (5, .long v5), (7, .int v7), (8, .int v8), (9, .int v9)]) (st' := [.int v1]) (σ' := σ) (by decide +kernel) rfl rfl rfl ?_
    refine fhW.tsw hΓ (dflt := 52) (lo := 26) (hi := 30) (offs := #[35, 38, 41, 45, 48]) (len := 35) (td := 193) [(26, 176), (27, 179), (28, 182), (29, 186), (30, 189)] (by decide +kernel) ?_
    refine fhsw_c (fun hc => ?_) (fun hc => ?_)
    · rw [if_pos hc] at h
      refine fhW.blk fhPF fhLL hΓ [(.iload_n 2, 0), (.i2l, 0)] (pc' := 178) (lv' := [(0, .ref 0), (1, .int v1), (2, .int v2), (3, .int v3), (4, .int v4), (5, .long v5), (7, .int v7), (8, .int v8), (9, .int v9)]) (st' := [.long (Int32.toInt64 v2)]) (σ' := σ) (by decide +kernel) rfl rfl rfl ?_
      have e9 := Option.some.inj h
      subst e9
      exact fhW.lret hΓ (by decide +kernel) hk
    rw [if_neg hc] at h
    refine fhsw_c (fun hc => ?_) (fun hc => ?_)
    · rw [if_pos hc] at h
      refine fhW.blk fhPF fhLL hΓ [(.iload_n 3, 0), (.i2l, 0)] (pc' := 181) (lv' := [(0, .ref 0), (1, .int v1), (2, .int v2), (3, .int v3), (4, .int v4), (5, .long v5), (7, .int v7), (8, .int v8), (9, .int v9)]) (st' := [.long (Int32.toInt64 v3)]) (σ' := σ) (by decide +kernel) rfl rfl rfl ?_
      have e9 := Option.some.inj h
      subst e9
      exact fhW.lret hΓ (by decide +kernel) hk
    rw [if_neg hc] at h
    refine fhsw_c (fun hc => ?_) (fun hc => ?_)
    · rw [if_pos hc] at h
      refine fhW.blk fhPF fhLL hΓ [(.iload 4, 0), (.i2l, 0)] (pc' := 185) (lv' := [(0, .ref 0), (1, .int v1), (2, .int v2), (3, .int v3), (4, .int v4), (5, .long v5), (7, .int v7), (8, .int v8), (9, .int v9)]) (st' := [.long (Int32.toInt64 v4)]) (σ' := σ) (by decide +kernel) rfl rfl rfl ?_
      have e9 := Option.some.inj h
      subst e9
      exact fhW.lret hΓ (by decide +kernel) hk
    rw [if_neg hc] at h
    refine fhsw_c (fun hc => ?_) (fun hc => ?_)
    · rw [if_pos hc] at h
      refine fhW.blk fhPF fhLL hΓ [(.lload 5, 0)] (pc' := 188) (lv' := [(0, .ref 0), (1, .int v1), (2, .int v2), (3, .int v3), (4, .int v4), (5, .long v5), (7, .int v7), (8, .int v8), (9, .int v9)]) (st' := [.long v5]) (σ' := σ) (by decide +kernel) rfl rfl rfl ?_
      have e9 := Option.some.inj h
      subst e9
      exact fhW.lret hΓ (by decide +kernel) hk
    rw [if_neg hc] at h
    refine fhsw_c (fun hc => ?_) (fun hc => ?_)
    · rw [if_pos hc] at h
      refine fhW.blk fhPF fhLL hΓ [(.iload 7, 0), (.i2l, 0)] (pc' := 192) (lv' := [(0, .ref 0), (1, .int v1), (2, .int v2), (3, .int v3), (4, .int v4), (5, .long v5), (7, .int v7), (8, .int v8), (9, .int v9)]) (st' := [.long (Int32.toInt64 v7)]) (σ' := σ) (by decide +kernel) rfl rfl rfl ?_
      have e9 := Option.some.inj h
      subst e9
      exact fhW.lret hΓ (by decide +kernel) hk
    rw [if_neg hc] at h
    refine fhsw_n ?_
    refine fhW.blk fhPF fhLL hΓ [(.iload 8, 0), (.i2l, 0)] (pc' := 196) (lv' := [(0, .ref 0), (1, .int v1), (2, .int v2), (3, .int v3), (4, .int v4), (5, .long v5), (7, .int v7), (8, .int v8), (9, .int v9)]) (st' := [.long (Int32.toInt64 v8)]) (σ' := σ) (by decide +kernel) rfl rfl rfl ?_
    have e9 := Option.some.inj h
    subst e9
    exact fhW.lret hΓ (by decide +kernel) hk
  · rw [if_neg hc] at h
    refine fhW.blk fhPF fhLL hΓ [(.aload_n 0, 0), (.getfield 44, 0), (.aload_n 0, 0), (.getfield 72, 0), (.iload 9, 0)] (pc' := 41) (lv' := [(0, .ref 0), (1, .int v1), (2, .int v2), (3, .int v3), (4, .int v4), (5, .long v5), (7, .int v7), (8, .int v8), (9, .int v9)]) (st' := [.int v9, .ref 56, .ref 10]) (σ' := σ) (by decide +kernel) rfl rfl rfl ?_
    obtain ⟨q1, hb1, h⟩ := Option.bind_eq_some_iff.mp h
    refine fhW.callv hΓ mvX10_fillFromGuest ml_11_379 (t := 10) (ci := 10) (av := [.ref 56, .int v9]) (rest := []) (r := none) (σ' := q1) (T_X10_fillFromGuest (E := fhEn Γ) (d := fhD Γ - 1) hE (by omega) v9 σ hb1) (by omega) (by decide +kernel) rfl rfl rfl (Nat.le_of_ble_eq_true rfl) rfl ?_
    show fhW fhYF Γ 44 [(0, .ref 0), (1, .int v1), (2, .int v2), (3, .int v3), (4, .int v4), (5, .long v5), (7, .int v7), (8, .int v8), (9, .int v9)] [] q1
    refine fhW.blk fhPF fhLL hΓ [(.aload_n 0, 0), (.getfield 44, 0), (.aload_n 0, 0), (.getfield 28, 0), (.iconst 0, 0), (.aload_n 0, 0), (.getfield 28, 0), (.getfield 367, 0)] (pc' := 60) (lv' := [(0, .ref 0), (1, .int v1), (2, .int v2), (3, .int v3), (4, .int v4), (5, .long v5), (7, .int v7), (8, .int v8), (9, .int v9)]) (st' := [.int (q1.1 6 1), .int (0 : Int32), .ref 6, .ref 10]) (σ' := q1) (by decide +kernel) rfl rfl rfl ?_
    obtain ⟨q2, hb2, h⟩ := Option.bind_eq_some_iff.mp h
    refine fhW.callv hΓ mvX10_value ml_11_383 (t := 10) (ci := 10) (av := [.ref 6, .int (0 : Int32), .int (q1.1 6 1)]) (rest := []) (r := (some (.int q2.1))) (σ' := q2.2) (T_X10_value (E := fhEn Γ) (d := fhD Γ - 1) hE (by omega) 6 (0 : Int32) (q1.1 6 1) rfl q1 hb2) (by omega) (by decide +kernel) rfl rfl rfl (Nat.le_of_ble_eq_true rfl) rfl ?_
    show fhW fhYF Γ 63 [(0, .ref 0), (1, .int v1), (2, .int v2), (3, .int v3), (4, .int v4), (5, .long v5), (7, .int v7), (8, .int v8), (9, .int v9)] [.int q2.1] q2.2
    refine fhW.blk fhPF fhLL hΓ [(.istore 10, 0), (.iload 10, 0)] (pc' := 67) (lv' := [(10, .int q2.1), (0, .ref 0), (1, .int v1), (2, .int v2), (3, .int v3), (4, .int v4), (5, .long v5), (7, .int v7), (8, .int v8), (9, .int v9)]) (st' := [.int q2.1]) (σ' := q2.2) (by decide +kernel) rfl rfl rfl ?_
    refine fhW.z_eq hΓ (tgt := 88) (show fhbk _ _ (.ifCond .eq (21)) _ = true by decide +kernel) (fun hc => ?_) (fun hc => ?_)
    · rw [if_pos hc] at h
      refine fhW.sub (lv' := [(0, .ref 0), (1, .int v1), (2, .int v2), (3, .int v3), (4, .int v4), (5, .long v5), (7, .int v7), (8, .int v8), (9, .int v9), (10, .int q2.1)]) [1, 2, 3, 4, 5, 6, 7, 8, 9, 0] rfl ?_
      exact L_X11_answer_88 hE hΓ hd v1 v2 v3 v4 v5 v7 v8 v9 q2.1 q2.2 _ h hk
    · rw [if_neg hc] at h
      refine fhW.blk fhPF fhLL hΓ [(.iload_n 2, 0), (.iconst (-1), -1)] (pc' := 72) (lv' := [(10, .int q2.1), (0, .ref 0), (1, .int v1), (2, .int v2), (3, .int v3), (4, .int v4), (5, .long v5), (7, .int v7), (8, .int v8), (9, .int v9)]) (st' := [.int (-1 : Int32), .int v2]) (σ' := q2.2) (by decide +kernel) rfl rfl rfl ?_
      refine fhW.i_ne hΓ (tgt := 80) (show fhbk _ _ (.if_icmp .ne (8)) _ = true by decide +kernel) (fun hc => ?_) (fun hc => ?_)
      · simp only [if_neg hc] at h
        refine fhW.blk fhPF fhLL hΓ [(.iload_n 2, 0)] (pc' := 81) (lv' := [(10, .int q2.1), (0, .ref 0), (1, .int v1), (2, .int v2), (3, .int v3), (4, .int v4), (5, .long v5), (7, .int v7), (8, .int v8), (9, .int v9)]) (st' := [.int v2]) (σ' := q2.2) (by decide +kernel) rfl rfl rfl ?_
        refine fhW.sub (lv' := [(0, .ref 0), (1, .int v1), (4, .int v4), (5, .long v5), (7, .int v7), (8, .int v8), (9, .int v9), (10, .int q2.1)]) [1, 2, 5, 6, 7, 8, 9, 0] rfl ?_
        exact L_X11_answer_81 hE hΓ hd v1 v4 v5 v7 v8 v9 q2.1 v2 q2.2 _ h hk
      · simp only [if_pos hc] at h
        refine fhW.blk fhPF fhLL hΓ [(.iload 9, 0)] (pc' := 77) (lv' := [(10, .int q2.1), (0, .ref 0), (1, .int v1), (2, .int v2), (3, .int v3), (4, .int v4), (5, .long v5), (7, .int v7), (8, .int v8), (9, .int v9)]) (st' := [.int v9]) (σ' := q2.2) (by decide +kernel) rfl rfl rfl ?_
        refine fhW.goto hΓ (off := 4) (tgt := 81) (by decide +kernel) ?_
        refine fhW.sub (lv' := [(0, .ref 0), (1, .int v1), (4, .int v4), (5, .long v5), (7, .int v7), (8, .int v8), (9, .int v9), (10, .int q2.1)]) [1, 2, 5, 6, 7, 8, 9, 0] rfl ?_
        exact L_X11_answer_81 hE hΓ hd v1 v4 v5 v7 v8 v9 q2.1 v9 q2.2 _ h hk
set_option maxRecDepth 100000 in
set_option maxHeartbeats 4000000 in
theorem L_X11_answer_E {Γ : fhX} (hE : fhEok fhYF (fhEn Γ)) (hΓ : fhOk fhYF 11 cX11_answer 11 (some .long) Γ) (hd : 5 ≤ fhD Γ) (v1 : Int32)  (σ : fhM) (o : Int64 × fhM) (h : f_X11_answer v1 σ = some o) (hk : (fun o => fhRet Γ (some (.long o.1)) o.2) o) : fhW fhYF Γ 0 [(0, .ref 0), (1, .int v1)] [] σ := by
  unfold f_X11_answer at h
  refine fhW.blk fhPF fhLL hΓ [(.iconst (-1), -1), (.istore_n 2, 0), (.iconst (-1), -1), (.istore_n 3, 0), (.iconst 0, 0), (.istore 4, 0), (.lconst 0, 0), (.lstore 5, 0), (.iconst 0, 0), (.istore 7, 0), (.iconst 0, 0), (.istore 8, 0), (.iconst 0, 0), (.istore 9, 0)] (pc' := 19) (lv' := [(9, .int (0 : Int32)), (8, .int (0 : Int32)), (7, .int (0 : Int32)), (5, .long (0 : Int64)), (4, .int (0 : Int32)), (3, .int (-1 : Int32)), (2, .int (-1 : Int32)), (0, .ref 0), (1, .int v1)]) (st' := []) (σ' := σ) (by decide +kernel) rfl rfl rfl ?_
  refine fhW.sub (lv' := [(0, .ref 0), (1, .int v1), (2, .int (-1 : Int32)), (3, .int (-1 : Int32)), (4, .int (0 : Int32)), (5, .long (0 : Int64)), (7, .int (0 : Int32)), (8, .int (0 : Int32)), (9, .int (0 : Int32))]) [7, 8, 6, 5, 4, 3, 2, 1, 0] rfl ?_
  exact fhlp_ok (W := (fun x => fhW fhYF Γ 19 [(0, .ref 0), (1, .int v1), (2, .int x.1), (3, .int x.2.1), (4, .int x.2.2.1), (5, .long x.2.2.2.1), (7, .int x.2.2.2.2.1), (8, .int x.2.2.2.2.2.1), (9, .int x.2.2.2.2.2.2.1)] [] x.2.2.2.2.2.2.2)) (B := (fun o => fhRet Γ (some (.long o.1)) o.2)) (fun x o h hk => L_X11_answer_19 hE hΓ hd v1 x.1 x.2.1 x.2.2.1 x.2.2.2.1 x.2.2.2.2.1 x.2.2.2.2.2.1 x.2.2.2.2.2.2.1 x.2.2.2.2.2.2.2 o h hk) ((-1 : Int32), (-1 : Int32), (0 : Int32), (0 : Int64), (0 : Int32), (0 : Int32), (0 : Int32), σ) _ h hk
set_option maxRecDepth 100000 in
theorem T_X11_answer {E : fhE} {d : Nat} (hE : fhEok fhYF E) (hd : 5 ≤ d) (v1 : Int32)  (σ : fhM) {o : Int64 × fhM} (h : f_X11_answer v1 σ = some o) : fhC fhYF E d miX11_answer [.ref 0, .int v1] σ (some (.long o.1)) o.2 := by
  refine fhC.of (y := yX11_answer) (cc := cX11_answer) (nL := 11) (ret := (some .long)) 11 rfl (by decide +kernel) (Nat.le_of_ble_eq_true rfl) ?_
  intro Γ hΓ hR hD hEn
  subst hD; subst hEn
  exact L_X11_answer_E hE hΓ hd v1  σ _ h hR
set_option maxRecDepth 100000 in
set_option maxHeartbeats 4000000 in
theorem L_X11_pictureSize_E {Γ : fhX} (hE : fhEok fhYF (fhEn Γ)) (hΓ : fhOk fhYF 11 cX11_pictureSize 1 (some .int) Γ) (hd : 0 ≤ fhD Γ)   (σ : fhM) (o : Int32) (h : f_X11_pictureSize σ = o) (hk : (fun o => fhRet Γ (some (.int o)) σ) o) : fhW fhYF Γ 0 [(0, .ref 0)] [] σ := by
  unfold f_X11_pictureSize at h
  refine fhW.blk fhPF fhLL hΓ [(.iconst 2, 2), (.aload_n 0, 0), (.getfield 63, 0), (.getfield 177, 0), (.iadd, 0), (.aload_n 0, 0), (.getfield 63, 0), (.getfield 260, 0), (.bipush 7, 7), (.iadd, 0), (.bipush 8, 8), (.idiv, 0), (.iadd, 0), (.iconst 1, 1), (.iadd, 0)] (pc' := 25) (lv' := [(0, .ref 0)]) (st' := [.int ((((2 : Int32) + (σ.1 39 9)) + (((σ.1 39 11) + (7 : Int32)) / (8 : Int32))) + (1 : Int32))]) (σ' := σ) (by decide +kernel) rfl rfl rfl ?_
  subst h
  exact fhW.iret hΓ (by decide +kernel) hk
set_option maxRecDepth 100000 in
theorem T_X11_pictureSize {E : fhE} {d : Nat} (hE : fhEok fhYF E) (hd : 0 ≤ d)   (σ : fhM) : fhC fhYF E d miX11_pictureSize [.ref 0] σ (some (.int (f_X11_pictureSize σ))) σ := by
  refine fhC.of (y := yX11_pictureSize) (cc := cX11_pictureSize) (nL := 1) (ret := (some .int)) 11 rfl (by decide +kernel) (Nat.le_of_ble_eq_true rfl) ?_
  intro Γ hΓ hR hD hEn
  subst hD; subst hEn
  exact L_X11_pictureSize_E hE hΓ hd   σ _ rfl hR

